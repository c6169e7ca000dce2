import java.io.IOException;
import java.util.Arrays;

/** The boundary cases that the terms of the document name. */
public final class TermsBoundaryTest extends Boundary {
    public static void main(String[] args) throws IOException {
        begin();
        use();
        sitesAndCustomers();
        plans();
        cuts();
        changes();
        theMaster();
        steps();
        texts();
        history();
        whatAStateIs();
        errors();
        constants();
        end();
    }

    private static void use() {
        part("What it is");
        sentence("An object is used for at most 512 calls after it has been made");
        SiteCuts x = new SiteCuts();
        x.addCustomer(1);
        x.addSite(0);
        x.setRoute(0, 0, 0);
        for (int call = 3; call < CALLS_AT_MOST - 1; call++) {
            x.step();
        }
        due("count(7), the last call", x.count(7), CALLS_AT_MOST - 4);
        SiteCuts y = filled(38);
        for (int call = 5 + 2 + 38; call < CALLS_AT_MOST - 1; call += 2) {
            due("solve()", y.solve(), 2);
            y.undo();
        }
        due("count(5), the last call", y.count(5), 38);
    }

    private static void sitesAndCustomers() {
        part("Terms");
        sentence("There are at most 7 sites, numbered from 0, each with a price (0 to 999) for which it is opened");
        SiteCuts x = new SiteCuts();
        for (int site = 0; site < 7; site++) {
            due("addSite()", x.addSite(site % 2 == 0 ? 999 : 0), site);
        }
        due("plan(127, 1)", x.plan(127, 1), 4 * 999);
        due("plan(64, 1)", x.plan(64, 1), 999);
        due("plan(32, 1)", x.plan(32, 1), 0);
        due("plan(1, 1)", x.plan(1, 1), 999);
        due("plan(0, 1)", x.plan(0, 1), 0);
        refused(() -> bare(7, 1), "addSite(5)", s -> s.addSite(5), FULL);

        sentence("at most 8 customers, numbered from 0, each with a demand (1 to 20)");
        SiteCuts y = bare(1, 0);
        for (int customer = 0; customer < 8; customer++) {
            due("addCustomer()", y.addCustomer(customer % 2 == 0 ? 20 : 1), customer);
            y.setRoute(0, customer, 1);
        }
        due("plan(1, 2)", y.plan(1, 2), 4 * 20 + 4);
        due("serves(1, 7)", y.serves(1, 7), 0);
        refused(() -> bare(1, 8), "addCustomer(5)", s -> s.addCustomer(5), FULL);

        sentence("For each site and customer there is a route with a price for each unit (0 to 99), or "
            + "there is none (at first).");
        SiteCuts z = bare(7, 8);
        due("count(2), at first none", z.count(2), 0);
        for (int customer = 0; customer < 8; customer++) {
            due("setRoute(6, " + customer + ", 99), at first none", z.setRoute(6, customer, 99), 100);
            due("setRoute(6, " + customer + ", 0)", z.setRoute(6, customer, 0), 99);
            due("setRoute(6, " + customer + ", 100)", z.setRoute(6, customer, 100), 0);
        }
        due("count(2)", z.count(2), 0);

        sentence("There is a most of sites (1 to 7, at first 7).");
        due("count(3)", new SiteCuts().count(3), 7);
        SiteCuts w = bare(7, 0);
        due("judge(127)", w.judge(127), 0);
        due("setMost(1)", w.setMost(1), 7);
        due("judge(64)", w.judge(64), 0);
        due("judge(65)", w.judge(65), 1);
        due("setMost(7)", w.setMost(7), 1);

        sentence("Two sites can exclude one another.");
        SiteCuts v = bare(7, 0);
        due("exclude(6, 0, true)", v.exclude(6, 0, true), 1);
        due("exclude(0, 6, true), so already", v.exclude(0, 6, true), NONE);
        due("judge(65)", v.judge(65), 2);
        due("exclude(0, 6, false)", v.exclude(0, 6, false), 0);
        due("exclude(6, 0, false), so already", v.exclude(6, 0, false), NONE);
        due("judge(65)", v.judge(65), 0);
    }

    private static void plans() {
        part("Terms");
        sentence("A plan is a set of sites, as bits.");
        SiteCuts x = map(new int[] {1, 2, 4, 8, 16, 32, 64}, new int[0], new int[7][0]);
        for (int plan = 0; plan < 128; plan++) {
            due("plan(" + plan + ", 1)", x.plan(plan, 1), plan);
        }

        sentence("A plan is allowed if it has no more sites than the most, and no two that exclude one another.");
        SiteCuts y = bare(7, 0);
        y.setMost(3);
        due("judge(), 3 of 3", y.judge(64 + 8 + 1), 0);
        due("judge(), 4 of 3", y.judge(64 + 8 + 2 + 1), 1);
        y.exclude(5, 6, true);
        due("judge(), one of two", y.judge(64), 0);
        due("judge(), the other", y.judge(32 + 1), 0);
        due("judge(), both", y.judge(96), 2);
        due("judge(), both and more", y.judge(97), 2);
        due("byAll(2), sets of up to 3 without those with both", y.byAll(2), 1 + 7 + 21 + 35 - 1 - 5);

        sentence("A customer is reached by a plan if there is a route to it from any of its sites.");
        SiteCuts z = bare(2, 1);
        due("judge(3), no route", z.judge(3), 3);
        z.setRoute(1, 0, 99);
        due("judge(0), no site", z.judge(0), 3);
        due("judge(1), a site without a route", z.judge(1), 3);
        due("judge(2), the dearest route", z.judge(2), 0);
        due("judge(3), one of two", z.judge(3), 0);
        z.setRoute(1, 0, 0);
        due("judge(2), a route for nothing", z.judge(2), 0);

        sentence("An allowed plan is feasible if it reaches all customers.");
        due("judge(0) without customers", new SiteCuts().judge(0), 0);
        due("byAll(2) without customers", new SiteCuts().byAll(2), 1);
        due("judge(0) with a customer", bare(0, 1).judge(0), 3);
        due("byAll(2) with a customer", bare(0, 1).byAll(2), 0);
        SiteCuts w = bare(1, 8);
        for (int customer = 0; customer < 7; customer++) {
            w.setRoute(0, customer, 5);
        }
        due("judge(1), all but the last one", w.judge(1), 3);
        w.setRoute(0, 7, 5);
        due("judge(1), all", w.judge(1), 0);

        sentence("plus for each customer its demand * the least price of a route to it from any of its sites");
        int[] twenty = {20, 20, 20, 20, 20, 20, 20, 20};
        int[][] dear = new int[7][8];
        for (int[] row : dear) {
            Arrays.fill(row, 99);
        }
        SiteCuts v = map(new int[] {999, 999, 999, 999, 999, 999, 999}, twenty, dear);
        due("plan(127, 0), the dearest of all", v.plan(127, 0), 7 * 999 + 8 * 20 * 99);
        due("plan(64, 0)", v.plan(64, 0), 999 + 8 * 20 * 99);
        v.setRoute(6, 0, 0);
        due("plan(127, 0), a route for nothing", v.plan(127, 0), 7 * 999 + 7 * 20 * 99);
        due("plan(63, 0), without its site", v.plan(63, 0), 6 * 999 + 8 * 20 * 99);
        due("plan(0, 0) without customers", bare(3, 0).plan(0, 0), 0);
    }

    private static void cuts() {
        part("Terms");
        sentence("There are at most 40 cuts, numbered from 0 in the order in which they came");
        SiteCuts x = write(twins(), "0");
        for (int cut = 0; cut < 39; cut++) {
            due("readCut()", x.readCut(), cut);
        }
        due("step(), the 40th cut, a ray", x.step(), 0);
        due("cut(39, 0)", x.cut(39, 0), 0);
        due("cut(38, 0)", x.cut(38, 0), 1);
        due("cut(40, 0)", x.cut(40, 0), UNKNOWN);
        refused(() -> filled(40), "readCut(), the 41st", s -> s.readCut(), FULL);
        refused(() -> filled(40), "step(), the 41st", s -> s.step(), FULL);

        sentence("(when one is dropped, the later ones come one number earlier)");
        Start many = () -> {
            SiteCuts s = twins();
            for (int cut = 0; cut < 40; cut++) {
                read(s, String.valueOf(cut));
            }
            return s;
        };
        for (int dropped : new int[] {0, 17, 39}) {
            SiteCuts y = with(many, s -> s.drop(dropped));
            for (int cut = 0; cut < 39; cut++) {
                due("drop(" + dropped + "), cut(" + cut + ", 2)", y.cut(cut, 2), cut < dropped ? cut : cut + 1);
            }
            due("drop(" + dropped + "), cut(39, 2)", y.cut(39, 2), UNKNOWN);
            due("drop(" + dropped + "), readCut() of 39", y.readCut(), 39);
        }

        sentence("A ray of a customer asks for at least one of the sites from which there is a route to it.");
        SiteCuts z = bare(7, 1);
        z.step();
        due("plan(127, 4), a ray without sites", z.plan(127, 4), 1);
        for (int site = 0; site < 7; site++) {
            z.setRoute(site, 0, site % 2 == 0 ? 99 : 0);
        }
        z.step();
        due("plan(0, 4), no site", z.plan(0, 4), 1);
        for (int site = 0; site < 7; site++) {
            due("weight(0, " + site + ")", z.weight(0, site), 1);
            due("plan(), one site", z.plan(1 << site, 4), 0);
        }
        due("plan(127, 4), more than one", z.plan(127, 4), 0);

        sentence("A price cut has a number u (0 to 99) for each customer.");
        SiteCuts w = whole();
        w.setDemand(7, 20);
        due("readCut() of 99", read(w, "99,99,99,99,99,99,99,99"), 0);
        due("cut(0, 2)", w.cut(0, 2), 7 * 99 + 20 * 99);
        due("readCut() of 0", read(w, "0,0,0,0,0,0,0,0"), 1);
        due("cut(1, 2)", w.cut(1, 2), 0);
        for (int site = 0; site < 7; site++) {
            due("weight(1, " + site + ")", w.weight(1, site), 0);
        }
        due("readCut() of the last alone", read(w, "0,0,0,0,0,0,0,99"), 2);
        due("cut(2, 2)", w.cut(2, 2), 20 * 99);

        sentence("with a route to the customer whose price is less than u, of u - this price");
        SiteCuts v = map(new int[] {0, 0, 0, 0, 0}, new int[] {1, 3}, new int[][] {
            {49, 100}, {50, 100}, {51, 100}, {100, 100}, {0, 100}});
        due("readCut()", read(v, "50,99"), 0);
        due("cut(0, 2), a customer whom no site reaches", v.cut(0, 2), 50 + 3 * 99);
        due("weight(0, 0), one less than u", v.weight(0, 0), 1);
        due("weight(0, 1), as much as u", v.weight(0, 1), 0);
        due("weight(0, 2), more than u", v.weight(0, 2), 0);
        due("weight(0, 3), no route", v.weight(0, 3), 0);
        due("weight(0, 4), for nothing", v.weight(0, 4), 50);
        due("value(0, 31), the sum of all", v.value(0, 31), 1000000 + 50 + 297 - 51);

        sentence("(Whatever the numbers are, this is never more than what all routes of a feasible plan cost.)");
        String[] texts = {"0,0,0,0,0,0,0,0", "99,99,99,99,99,99,99,99", "9,18,27,36,45,54,63,72",
            "99,0,99,0,99,0,99,0", "10,19,28,37,46,55,64,73", "1,1,1,1,1,1,1,1", "8,17,26,35,44,53,62,71"};
        SiteCuts all = whole();
        for (int cut = 0; cut < texts.length; cut++) {
            due("readCut()", read(all, texts[cut]), cut);
            due("cut(" + cut + ", 3)", all.cut(cut, 3), 0);
        }
        for (int plan = 1; plan < 128; plan += 9) {
            for (int cut = 0; cut < texts.length; cut++) {
                int over = all.value(cut, plan) - 1000000 - all.plan(plan, 2);
                due("value above the routes of plan " + plan, Math.max(0, over), 0);
            }
        }
    }

    /** What each change leaves of three cuts, a best plan and four steps. */
    private static void changes() {
        part("Terms");
        sentence("When sites, customers, routes, the prices of sites or demands become different, all cuts "
            + "are dropped, "
            + "and there is no best plan (the steps so far stay)");
        Call[] different = {x -> x.addSite(0), x -> x.addCustomer(1), x -> x.setPrice(2, 31), x -> x.setDemand(0, 3),
            x -> x.setRoute(0, 0, 4), x -> x.setRoute(0, 0, 100), x -> x.setRoute(0, 1, 99)};
        for (int i = 0; i < different.length; i++) {
            SiteCuts x = with(Boundary::rich, different[i]);
            due("change " + i + ", count(5)", x.count(5), 0);
            due("change " + i + ", count(6)", x.count(6), 0);
            due("change " + i + ", master(2)", x.master(2), NONE);
            due("change " + i + ", master(3)", x.master(3), NONE);
            due("change " + i + ", master(4)", x.master(4), NONE);
            due("change " + i + ", count(7)", x.count(7), 4);
            due("change " + i + ", master(0), none without rays", x.master(0), 0);
        }
        Call[] soAlready = {x -> x.setPrice(2, 30), x -> x.setDemand(0, 2), x -> x.setRoute(0, 0, 3),
            x -> x.setRoute(0, 1, 100)};
        for (int i = 0; i < soAlready.length; i++) {
            SiteCuts x = with(Boundary::rich, soAlready[i]);
            due("no change " + i + ", count(5)", x.count(5), 3);
            due("no change " + i + ", master(2)", x.master(2), 3);
        }

        sentence("the most and what excludes one another do not matter to cuts, but there is no best plan then either");
        Call[] others = {x -> x.setMost(4), x -> x.setMost(1), x -> x.exclude(0, 2, false), x -> x.exclude(1, 2, true)};
        for (int i = 0; i < others.length; i++) {
            SiteCuts x = with(Boundary::rich, others[i]);
            due("change " + i + ", count(5)", x.count(5), 3);
            due("change " + i + ", count(6)", x.count(6), 2);
            due("change " + i + ", master(2)", x.master(2), NONE);
            due("change " + i + ", master(3)", x.master(3), NONE);
            due("change " + i + ", master(4)", x.master(4), NONE);
            due("change " + i + ", count(7)", x.count(7), 4);
        }
        SiteCuts y = with(Boundary::rich, x -> x.setMost(3));
        due("setMost(3), so already, master(2)", y.master(2), 3);
        due("exclude(2, 0, true), so already", y.exclude(2, 0, true), NONE);
        due("master(2)", y.master(2), 3);
    }

    private static void theMaster() {
        part("Terms");
        sentence("The master plan is, of all allowed plans that fulfil all rays, the one with the least guess");
        due("master(0) of nothing", new SiteCuts().master(0), 0);
        SiteCuts x = rich();
        due("master(0)", x.master(0), 3);
        x.setMost(2);
        due("master(0), a most of as many", x.master(0), 3);
        x.setMost(1);
        due("master(0), a most of less", x.master(0), 4);
        x.setMost(2);
        x.exclude(0, 1, true);
        due("master(0), not allowed", x.master(0), 4);
        due("plan(3, 3), it guesses less", x.plan(3, 3), 30);
        due("plan(4, 3)", x.plan(4, 3), 37);
        x.exclude(0, 1, false);
        x.drop(0);
        due("master(0), without a ray", x.master(0), 2);
        x.drop(0);
        due("master(0), without rays", x.master(0), 0);
        due("master(0) of a ray without sites", hopeless().master(0), NONE);

        sentence("plus the greatest value of all price cuts for it (or 0, if that is greater)");
        SiteCuts y = map(new int[] {3, 3}, new int[] {1}, new int[][] {{0}, {0}});
        due("plan(3, 3), no price cut", y.plan(3, 3), 6);
        read(y, "1");
        due("value(0, 3)", y.value(0, 3), 999999);
        due("plan(3, 3), -1", y.plan(3, 3), 6);
        due("plan(1, 3), 0", y.plan(1, 3), 3);
        due("plan(0, 3), 1", y.plan(0, 3), 1);
        read(y, "7");
        read(y, "2");
        due("plan(0, 3), the greatest in the middle", y.plan(0, 3), 7);
        due("plan(3, 3), all below 0", y.plan(3, 3), 6);

        sentence("of several the one that is the least number");
        SiteCuts z = bare(3, 1);
        for (int site = 0; site < 3; site++) {
            z.setRoute(site, 0, 4);
        }
        z.step();
        due("master(0), three of the same guess", z.master(0), 1);
        z.setMost(1);
        z.setPrice(0, 2);
        z.step();
        due("master(0), two of the same guess", z.master(0), 2);
        SiteCuts w = bothForNothing();
        w.drop(2);
        due("master(0), 2 and 3 of the same guess", w.master(0), 2);
        w.drop(1);
        due("master(0), 1 to 3 of the same guess", w.master(0), 1);
        w.drop(0);
        due("master(0), all of the same guess", w.master(0), 0);

        sentence("Its guess is the lower bound.");
        due("master(1) of nothing", new SiteCuts().master(1), 0);
        SiteCuts v = rich();
        due("master(1)", v.master(1), 30);
        v.drop(2);
        due("master(1), without price cuts", v.master(1), 14);
        due("master(1) of a ray without sites", hopeless().master(1), NONE);
    }

    private static void steps() {
        part("Terms");
        sentence("the ray of the lowest customer that it does not reach is added");
        SiteCuts x = bare(1, 8);
        for (int customer = 0; customer < 7; customer++) {
            x.setRoute(0, customer, 1);
        }
        due("step()", x.step(), 0);
        due("cut(0, 1), the first one", x.cut(0, 1), 0);
        due("step()", x.step(), 0);
        due("cut(1, 1), the last one", x.cut(1, 1), 7);
        SiteCuts y = bare(1, 8);
        for (int customer = 0; customer < 8; customer += 3) {
            y.setRoute(0, customer, 0);
        }
        y.step();
        y.step();
        due("cut(1, 1), the lowest of several", y.cut(1, 1), 1);
        due("count(5), one ray a step", y.count(5), 2);

        sentence("Otherwise it becomes the best plan, if there is none yet, or its cost is less");
        SiteCuts better = map(new int[] {0, 20, 10}, new int[] {1}, new int[][] {{99}, {0}, {60}});
        better.step();
        due("master(2), a ray makes no best plan", better.master(2), NONE);
        better.step();
        due("master(2), the first one", better.master(2), 1);
        better.step();
        due("master(2), less", better.master(2), 2);
        SiteCuts same = map(new int[] {5, 6}, new int[] {1, 1}, new int[][] {{4, 0}, {0, 3}});
        read(same, "4,0");
        same.step();
        same.step();
        due("master(2), the first one", same.master(2), 2);
        due("master(0), of the same cost", same.plan(same.master(0), 0), 9);
        due("step()", same.step(), 2);
        due("master(2), the same cost is not less", same.master(2), 2);
        SiteCuts dearer = map(new int[] {5, 5}, new int[] {1, 1}, new int[][] {{10, 0}, {0, 30}});
        dearer.step();
        dearer.step();
        due("master(2), the first one", dearer.master(2), 1);
        due("master(0)", dearer.master(0), 2);
        due("step()", dearer.step(), 1);
        due("master(2), more is not less", dearer.master(2), 1);
        due("step(), solved by 3", dearer.step(), 2);
        due("master(2), less", dearer.master(2), 3);

        sentence("if its cost is its guess, all is solved and nothing is added");
        SiteCuts free = map(new int[] {0}, new int[] {1}, new int[][] {{0}});
        due("step()", free.step(), 0);
        due("step(), cost and guess are 0", free.step(), 2);
        due("count(5)", free.count(5), 1);
        SiteCuts near = map(new int[] {3}, new int[] {1}, new int[][] {{5}});
        near.step();
        read(near, "4");
        due("plan(1, 3), one less than its cost", near.plan(1, 3), 7);
        due("step(), one less is not solved", near.step(), 1);
        due("count(5)", near.count(5), 3);
        due("step(), as much is solved", near.step(), 2);
        due("count(5)", near.count(5), 3);

        sentence("the price cut is added with u, for each customer, the least price of a route to it from "
            + "any of the plan's sites");
        SiteCuts edges = map(new int[] {0, 0, 999}, new int[] {1, 2, 4},
            new int[][] {{99, 100, 7}, {100, 1, 7}, {98, 0, 0}});
        edges.setRoute(1, 1, 0);
        edges.step();
        edges.step();
        due("master(0)", edges.master(0), 3);
        due("step()", edges.step(), 1);
        due("cut(2, 2), of 99, 0 and 7", edges.cut(2, 2), 99 + 4 * 7);
        due("weight(2, 0), as much", edges.weight(2, 0), 0);
        due("weight(2, 1), as much", edges.weight(2, 1), 0);
        due("weight(2, 2), less", edges.weight(2, 2), 1 + 4 * 7);

        sentence("The upper bound is the cost of the best plan.");
        due("master(3) of nothing", new SiteCuts().master(3), NONE);
        SiteCuts best = rich();
        due("master(3)", best.master(3), 30);
        best.drop(2);
        due("master(3), it does not know of cuts", best.master(3), 30);
    }

    private static void texts() {
        part("Terms");
        sentence("There is a text of at most 60 characters, empty at first.");
        SiteCuts x = bare(0, 1);
        due("count(9), at first", x.count(9), 0);
        due("readCut(), at first", x.readCut(), -100);
        due("clearText(), at first", x.clearText(), 0);
        Start sixty = () -> write(bare(0, 1), "1".repeat(60));
        due("count(9)", sixty.make().count(9), 60);
        refused(sixty, "type(1), the 61st", s -> s.type('1'), FULL);

        sentence("(one or two digits, without a zero in front, unless it is the single digit 0)");
        for (int u = 0; u < 100; u++) {
            SiteCuts y = bare(0, 1);
            due("readCut() of " + u, read(y, String.valueOf(u)), 0);
            due("cut(0, 2)", y.cut(0, 2), u);
        }
        due("readCut() of 100", read(bare(0, 1), "100"), -102);
        for (int digit = 0; digit < 10; digit++) {
            due("readCut() of 0" + digit, read(bare(0, 1), "0" + digit), -101);
        }

        sentence("for each customer, with \",\" between two");
        for (int customers = 1; customers <= 8; customers++) {
            for (String number : new String[] {"0", "7", "10", "99"}) {
                String text = number + ("," + number).repeat(customers - 1);
                int u = Integer.parseInt(number);
                SiteCuts y = bare(0, customers);
                due("readCut() of " + text, read(y, text), 0);
                due("cut(0, 2)", y.cut(0, 2), customers * u);
                due("readCut(), one too many", read(y, text + "," + number), -100 - text.length());
                due("readCut(), a comma too many", read(y, text + ","), -100 - text.length());
                due("readCut(), one number too few",
                    read(bare(0, customers), text.substring(0, text.length() - number.length())),
                    -100 - text.length() + number.length());
            }
        }

        sentence("The fault of the text is the index, from 0, of the first character that is not allowed at its place");
        String[] marked = {"^,", "^x", "^ 1,2", "^-1,2", "^/,2", "^:,2", "^x,y", "1^;2", "1^.2", "1^ ,2", "1,^,2",
            "1,^x",
            "1,^ 2", "0^1,2", "0^0,2", "1,0^2", "1,0^0", "12^3,4", "12^x4", "1,23^4", "12,34^5", "1,2^,", "1,2^x",
            "12,34^,", "0,0^,", "0,0^ ", "10^0,x"};
        for (String text : marked) {
            due("readCut() of " + text, read(bare(0, 2), text.replace("^", "")), -100 - text.indexOf('^'));
        }
        char[] strange = {0, 9, 10, '/', ':', '+', '-', 'a', 127, 128, 255, '0' + 256, ',' + 256, 0x0660, 0xFF10,
            65535};
        for (char sign : strange) {
            due("readCut() of sign " + (int) sign, read(bare(0, 2), "" + sign), -100);
            due("readCut() of 7 and sign " + (int) sign, read(bare(0, 2), "7" + sign), -101);
            due("readCut() of 7, and sign " + (int) sign, read(bare(0, 2), "7," + sign), -102);
            due("readCut() of 7,7 and sign " + (int) sign, read(bare(0, 2), "7,7" + sign), -103);
        }
        due("readCut() of 60 characters", read(bare(0, 8), "1,".repeat(30)), -100 - 15);

        sentence("or the length of the text if it ends too early");
        String early = "10,0,99,7,1,20,3,44";
        for (int length = 0; length < early.length() - 1; length++) {
            due("readCut() of length " + length, read(bare(0, 8), early.substring(0, length)), -100 - length);
        }
        due("readCut() of one digit of the last", read(bare(0, 8), early.substring(0, early.length() - 1)), 0);
    }

    private static void history() {
        part("Terms");
        sentence("A history of at most 4 states is kept; when one more is recorded, the oldest one is dropped");
        due("count(8), at first", new SiteCuts().count(8), 0);
        for (int acts = 1; acts <= 12; acts++) {
            SiteCuts x = bare(1, 0);
            x.undo();
            for (int act = 0; act < acts; act++) {
                x.setMost(act % 2 == 0 ? 1 + act / 2 : 7);
            }
            int kept = Math.min(4, acts);
            due(acts + " acts, count(8)", x.count(8), kept);
            for (int left = kept - 1; left >= 0; left--) {
                due(acts + " acts, undo()", x.undo(), left);
                int act = acts - kept + left - 1;
                due(acts + " acts, count(3)", x.count(3), act < 0 || act % 2 == 1 ? 7 : 1 + act / 2);
            }
            due(acts + " acts, one undo() more", x.undo(), NONE);
        }

        sentence("undo() removes and restores the latest one");
        SiteCuts y = new SiteCuts();
        for (int round = 0; round < 5; round++) {
            y.addSite(round);
            y.addSite(100 + round);
            due("undo()", y.undo(), Math.min(3, round + 1));
            due("count(0)", y.count(0), round + 1);
            due("plan(), the price of the one that stays", y.plan(1 << round, 1), round);
        }

        sentence("Each call of a method that is described as an act, and returns no error and not NONE, "
            + "records the state that was before it.");
        Call[] acts = {x -> x.addSite(1), x -> x.addCustomer(1), x -> x.setPrice(0, 1), x -> x.setDemand(0, 1),
            x -> x.setRoute(0, 0, 1), x -> x.setMost(1), x -> x.exclude(0, 1, true), x -> x.step(), x -> x.solve(),
            x -> x.readCut(), x -> x.drop(0), x -> x.restore()};
        int[] answers = {3, 2, 10, 2, 3, 3, 2, 2, 0, 3, 2, 0};
        for (int i = 0; i < acts.length; i++) {
            act(Boundary::rich, "act " + i, acts[i], answers[i]);
        }
        act(() -> with(Boundary::rich, x -> read(x, "0,0")), "dropLoose()", x -> x.dropLoose(), 1);
        Call[] others = {x -> x.clearText(), x -> x.type('1'), x -> x.keep(), x -> x.judge(0), x -> x.plan(3, 0),
            x -> x.serves(3, 0), x -> x.cut(0, 0), x -> x.weight(0, 0), x -> x.value(0, 0), x -> x.master(0),
            x -> x.byAll(0), x -> x.count(0)};
        int[] told = {3, 4, 3, 3, 30, 0, 0, 1, 0, 3, 3, 3};
        for (int i = 0; i < others.length; i++) {
            noAct(Boundary::rich, "call " + i + ", no act", others[i], told[i]);
        }

        sentence("There is one snapshot, empty at first.");
        refused(SiteCuts::new, "restore() at first", x -> x.restore(), NONE);
        SiteCuts z = bare(1, 0);
        z.keep();
        z.addSite(1);
        z.keep();
        z.undo();
        z.undo();
        due("count(0)", z.count(0), 0);
        z.restore();
        due("count(0) of the one snapshot", z.count(0), 2);
    }

    private static void whatAStateIs() {
        part("Terms");
        sentence("A state is everything but the text, the history and the snapshot.");
        SiteCuts x = rich();
        x.keep();
        write(x, "12345");
        x.addSite(1);
        x.addCustomer(1);
        x.setMost(1);
        x.exclude(0, 1, true);
        due("restore()", x.restore(), 3);
        due("count(9), the text stays", x.count(9), 5);
        due("count(8), the history stays", x.count(8), 4);
        int[] want = {3, 2, 4, 3, 1, 3, 2, 4};
        for (int what = 0; what < want.length; what++) {
            due("count(" + what + ") behind restore()", x.count(what), want[what]);
        }
        due("master(2) behind restore()", x.master(2), 3);
        x.undo();
        due("count(9) behind undo()", x.count(9), 5);
        due("count(0) behind undo()", x.count(0), 4);
        due("count(3) behind undo()", x.count(3), 1);
        due("restore(), the snapshot stays behind undo()", x.restore(), 3);
        due("count(0) behind restore()", x.count(0), 3);
        same("all behind restore()", () -> with(Boundary::rich, s -> s.clearText()), () -> {
            SiteCuts y = with(Boundary::rich, s -> s.keep());
            y.setDemand(0, 20);
            y.setPrice(2, 0);
            y.setRoute(1, 0, 0);
            y.restore();
            y.clearText();
            return y;
        }, true);
    }

    /** For each pair of errors that can apply at once, and each error beside NONE. */
    private static void errors() {
        part("Terms");
        sentence("Where several errors can apply, the order of the @return line is the order of the checks.");
        refused(() -> bare(7, 1), "addSite(1000), BAD_VALUE and FULL", x -> x.addSite(1000), BAD_VALUE);
        refused(() -> bare(1, 8), "addCustomer(0), BAD_VALUE and FULL", x -> x.addCustomer(0), BAD_VALUE);
        refused(Boundary::rich, "setPrice(3, 1000)", x -> x.setPrice(3, 1000), UNKNOWN);
        refused(Boundary::rich, "setDemand(2, 21)", x -> x.setDemand(2, 21), UNKNOWN);
        refused(Boundary::rich, "setRoute(3, 0, 101)", x -> x.setRoute(3, 0, 101), UNKNOWN);
        refused(Boundary::rich, "setRoute(0, 2, -1)", x -> x.setRoute(0, 2, -1), UNKNOWN);
        refused(Boundary::rich, "exclude(3, 3, true)", x -> x.exclude(3, 3, true), UNKNOWN);
        refused(Boundary::rich, "exclude(-1, -1, false)", x -> x.exclude(-1, -1, false), UNKNOWN);
        refused(() -> filled(hopeless(), "0,0", 38), "step(), NOT_POSSIBLE and no room", x -> x.step(), NOT_POSSIBLE);
        refused(() -> filled(hopeless(), "0,0", 38), "solve(), NOT_POSSIBLE and no room", x -> x.solve(), NOT_POSSIBLE);
        refused(() -> write(bare(1, 0), "x"), "readCut(), no customer and a fault", x -> x.readCut(), NOT_POSSIBLE);
        refused(() -> write(filled(40), "x"), "readCut(), a fault and no room", x -> x.readCut(), -100);
        refused(Boundary::rich, "plan(0, 5)", x -> x.plan(0, 5), BAD_VALUE);
        refused(Boundary::rich, "plan(8, 0)", x -> x.plan(8, 0), BAD_VALUE);
        refused(Boundary::rich, "serves(8, 2), the plan first", x -> x.serves(8, 2), BAD_VALUE);
        refused(Boundary::rich, "serves(-1, -1), the plan first", x -> x.serves(-1, -1), BAD_VALUE);
        refused(Boundary::rich, "cut(3, 5)", x -> x.cut(3, 5), UNKNOWN);
        refused(Boundary::rich, "value(3, 8)", x -> x.value(3, 8), UNKNOWN);
        refused(Boundary::rich, "value(-1, -1)", x -> x.value(-1, -1), UNKNOWN);

        sentence("NONE is no error; it is returned only if no error applies.");
        refused(Boundary::rich, "exclude(1, 1, false), both are the same", x -> x.exclude(1, 1, false), BAD_VALUE);
        refused(Boundary::rich, "exclude(3, 0, false), so already", x -> x.exclude(3, 0, false), UNKNOWN);
        refused(Boundary::rich, "setRoute(3, 0, 100), so already", x -> x.setRoute(3, 0, 100), UNKNOWN);
        refused(Boundary::rich, "serves(0, 2), not reached", x -> x.serves(0, 2), UNKNOWN);
        refused(Boundary::rich, "serves(8, 0), not reached", x -> x.serves(8, 0), BAD_VALUE);
        refused(Boundary::hopeless, "dropLoose(), no master plan", x -> x.dropLoose(), NOT_POSSIBLE);
        refused(Boundary::hopeless, "master(5), no master plan", x -> x.master(5), BAD_VALUE);
        refused(Boundary::hopeless, "byAll(3), no plan", x -> x.byAll(3), BAD_VALUE);

        sentence("A call that returns an error or NONE changes nothing.");
        Call[] none = {x -> x.setPrice(0, 10), x -> x.setDemand(1, 5), x -> x.setRoute(0, 1, 100), x -> x.setMost(3),
            x -> x.exclude(2, 0, true), x -> x.exclude(0, 1, false), x -> x.dropLoose(), x -> x.cut(2, 1),
            x -> x.serves(1, 1)};
        for (int i = 0; i < none.length; i++) {
            refused(Boundary::rich, "call " + i, none[i], NONE);
        }
        refused(() -> undone(Boundary::rich, 4), "undo()", x -> x.undo(), NONE);
        refused(Boundary::three, "restore()", x -> x.restore(), NONE);
        refused(() -> filled(39), "solve(), two more would be needed", x -> x.solve(), FULL);
    }

    private static void constants() {
        part("Terms");
        sentence("`UNKNOWN = -1`: There is no such site, customer or cut.");
        due("UNKNOWN", SiteCuts.UNKNOWN, -1);
        due("setPrice(3, 1)", rich().setPrice(3, 1), -1);
        due("setDemand(2, 1)", rich().setDemand(2, 1), -1);
        due("drop(3)", rich().drop(3), -1);
        sentence("`BAD_VALUE = -2`: Another argument is out of range.");
        due("BAD_VALUE", SiteCuts.BAD_VALUE, -2);
        due("setMost(8)", rich().setMost(8), -2);
        sentence("`FULL = -3`: There is no more room.");
        due("FULL", SiteCuts.FULL, -3);
        due("addSite(1)", bare(7, 0).addSite(1), -3);
        sentence("`NOT_POSSIBLE = -4`: This is not possible.");
        due("NOT_POSSIBLE", SiteCuts.NOT_POSSIBLE, -4);
        due("step()", new SiteCuts().step(), -4);
        sentence("`NONE = -5`: There is no such thing; not an error.");
        due("NONE", SiteCuts.NONE, -5);
        due("undo()", new SiteCuts().undo(), -5);
    }
}
