import java.util.ArrayList;
import java.util.Arrays;
import java.util.List;

/**
 * Long runs of mixed calls on SiteCuts and on a model that follows the document's sentences without any
 * thought of room or speed: whole copies of states, sets as boolean rows, cuts that are worked out anew.
 */
public final class ModelTest {
    private static final int RUNS = 800;
    private static final int CALLS = 512;

    /** A fixed sequence of numbers, so that each run of the test is the same. */
    private static long seed = 20261119L;

    private static int below(int bound) {
        seed = seed * 6364136223846793005L + 1442695040888963407L;
        return (int) ((seed >>> 33) % bound);
    }

    public static void main(String[] args) {
        int[] answers = new int[6];
        for (int run = 0; run < RUNS; run++) {
            List<String> calls = new ArrayList<>();
            SiteCuts program = new SiteCuts();
            Model model = new Model();
            int style = run % 8;
            for (int call = 0; call < CALLS; call++) {
                int[] asked = style == 7 && call > 60 ? fill(model) : choose(style, model);
                int got = ask(program, asked);
                int want = model.ask(asked);
                calls.add(Arrays.toString(asked) + " answered " + got);
                answers[want < 0 ? Math.min(5, -want) : 0]++;
                if (got != want) {
                    int from = Math.max(0, calls.size() - 30);
                    for (String told : calls.subList(from, calls.size())) {
                        System.out.println(told);
                    }
                    System.out.println("run " + run + ", call " + call + ": due is " + want);
                    System.exit(1);
                }
            }
        }
        System.out.println(RUNS + " runs of " + CALLS + " calls are as due; answers and errors: "
            + Arrays.toString(answers));
        for (int kind : answers) {
            if (kind == 0) {
                System.out.println("a kind of answer was never met");
                System.exit(1);
            }
        }
    }

    private static int ask(SiteCuts x, int[] a) {
        switch (a[0]) {
            case 0: return x.addSite(a[1]);
            case 1: return x.addCustomer(a[1]);
            case 2: return x.setPrice(a[1], a[2]);
            case 3: return x.setDemand(a[1], a[2]);
            case 4: return x.setRoute(a[1], a[2], a[3]);
            case 5: return x.setMost(a[1]);
            case 6: return x.exclude(a[1], a[2], a[3] != 0);
            case 7: return x.step();
            case 8: return x.solve();
            case 9: return x.readCut();
            case 10: return x.drop(a[1]);
            case 11: return x.dropLoose();
            case 12: return x.type((char) a[1]);
            case 13: return x.clearText();
            case 14: return x.undo();
            case 15: return x.keep();
            case 16: return x.restore();
            case 17: return x.judge(a[1]);
            case 18: return x.plan(a[1], a[2]);
            case 19: return x.serves(a[1], a[2]);
            case 20: return x.cut(a[1], a[2]);
            case 21: return x.weight(a[1], a[2]);
            case 22: return x.value(a[1], a[2]);
            case 23: return x.master(a[1]);
            case 24: return x.byAll(a[1]);
            default: return x.count(a[1]);
        }
    }

    // ---- what is called

    private static int[] choose(int style, Model model) {
        int kind = below(100);
        if (style == 1 && model.state.prices.size() < 7 && below(3) == 0) {
            return new int[] {0, below(60)};
        }
        if (style == 2 && below(5) == 0) {
            return goodText(model);
        }
        if (kind < 45) {
            return act(style, model);
        }
        if (kind < 60) {
            return textOrHistory(style, model);
        }
        return question(model);
    }

    /** Calls that bring many cuts and leave them, so that there are 40 of them at some time. */
    private static int[] fill(Model model) {
        int kind = below(100);
        if (kind < 50) {
            return goodText(model);
        }
        if (kind < 60) {
            return kind < 57 ? new int[] {7} : new int[] {8};
        }
        if (kind < 64) {
            return kind < 62 ? new int[] {10, cut(model)} : new int[] {14};
        }
        if (kind == 64) {
            return below(3) == 0 ? new int[] {11} : new int[] {5, 1 + below(7)};
        }
        return question(model);
    }

    /** The next character of a text that has no fault, or readCut() when it is whole. */
    private static int[] goodText(Model model) {
        int customers = model.state.demands.size();
        if (customers == 0) {
            return new int[] {1, 1 + below(20)};
        }
        int[] fault = model.readText(new int[customers]);
        if (fault[0] < 0) {
            return below(4) == 0 ? new int[] {12, '0' + below(10)} : new int[] {9};
        }
        if (fault[0] < model.text.length()) {
            return new int[] {13};
        }
        return new int[] {12, fault[1] == ',' ? ',' : '0' + below(10)};
    }

    private static int[] act(int style, Model model) {
        int kind = below(100);
        boolean still = style >= 4 && model.state.prices.size() >= 3 && model.state.demands.size() >= 2;
        if (still && below(3) != 0) {
            kind = 60 + below(40);
        }
        if (kind < 8) {
            return new int[] {0, edge(-1, 1000, 0, 999)};
        }
        if (kind < 15) {
            return new int[] {1, edge(0, 21, 1, 20)};
        }
        if (kind < 20) {
            return new int[] {2, site(model), edge(-1, 1000, 0, 60)};
        }
        if (kind < 24) {
            return new int[] {3, customer(model), edge(0, 21, 1, 20)};
        }
        if (kind < 54) {
            return new int[] {4, site(model), customer(model), edge(-1, 101, below(3) == 0 ? 90 : 0, 100)};
        }
        if (kind < 58) {
            return new int[] {5, edge(0, 8, 1, 7)};
        }
        if (kind < 63) {
            return new int[] {6, site(model), site(model), below(2)};
        }
        if (kind < 80) {
            return new int[] {7};
        }
        if (kind < 86) {
            return new int[] {8};
        }
        if (kind < 93) {
            return new int[] {9};
        }
        return kind < 97 ? new int[] {10, cut(model)} : new int[] {11};
    }

    private static int[] textOrHistory(int style, Model model) {
        int kind = below(100);
        if (kind < 50) {
            int sign = below(20);
            return new int[] {12, sign == 0 ? below(65536) : sign < 6 ? ',' : '0' + below(10)};
        }
        if (kind < 56) {
            return new int[] {style == 3 ? 12 : 13, '1'};
        }
        if (kind < 75) {
            return new int[] {14};
        }
        return kind < 85 ? new int[] {15} : new int[] {16};
    }

    private static int[] question(Model model) {
        switch (below(9)) {
            case 0: return new int[] {17, set(model)};
            case 1: return new int[] {18, set(model), below(7) - 1};
            case 2: return new int[] {19, set(model), customer(model)};
            case 3: return new int[] {20, cut(model), below(7) - 1};
            case 4: return new int[] {21, cut(model), site(model)};
            case 5: return new int[] {22, cut(model), set(model)};
            case 6: return new int[] {23, below(7) - 1};
            case 7: return new int[] {24, below(5) - 1};
            default: return new int[] {25, below(12) - 1};
        }
    }

    private static int edge(int under, int over, int least, int most) {
        switch (below(30)) {
            case 0: return under;
            case 1: return over;
            case 2: return least;
            case 3: return most;
            case 4: return Integer.MIN_VALUE;
            case 5: return Integer.MAX_VALUE;
            default: return least + below(most - least + 1);
        }
    }

    private static int within(int size) {
        switch (below(40)) {
            case 0: return -1;
            case 1: return size;
            case 2: return Integer.MIN_VALUE;
            case 3: return Integer.MAX_VALUE;
            default: return size == 0 ? below(3) : below(size);
        }
    }

    private static int site(Model model) {
        return within(model.state.prices.size());
    }

    private static int customer(Model model) {
        return within(model.state.demands.size());
    }

    private static int cut(Model model) {
        return within(model.state.cuts.size());
    }

    private static int set(Model model) {
        return within(1 << model.state.prices.size());
    }

    // ---- the model

    private static final class ModelCut {
        boolean isRay;
        int customer;
        int[] u;
    }

    private static final class ModelState {
        List<Integer> prices = new ArrayList<>();
        List<Integer> demands = new ArrayList<>();
        int[][] routes = new int[7][8];
        boolean[][] excluding = new boolean[7][7];
        int most = 7;
        List<ModelCut> cuts = new ArrayList<>();
        int best = -1;
        int steps = 0;

        ModelState copy() {
            ModelState other = new ModelState();
            other.prices.addAll(prices);
            other.demands.addAll(demands);
            for (int site = 0; site < 7; site++) {
                other.routes[site] = routes[site].clone();
                other.excluding[site] = excluding[site].clone();
            }
            other.most = most;
            other.cuts.addAll(cuts);
            other.best = best;
            other.steps = steps;
            return other;
        }
    }

    private static final class Model {
        ModelState state = new ModelState();
        List<ModelState> history = new ArrayList<>();
        ModelState snapshot = null;
        StringBuilder text = new StringBuilder();

        int ask(int[] a) {
            ModelState before = state.copy();
            int answer = a[0] <= 16 ? change(a) : tell(a);
            boolean isAct = a[0] <= 11 || a[0] == 16;
            if (isAct && answer < 0) {
                state = before;
            } else if (isAct) {
                history.add(before);
                if (history.size() > 4) {
                    history.remove(0);
                }
            }
            return answer;
        }

        private boolean isSite(int site) {
            return site >= 0 && site < state.prices.size();
        }

        private boolean isCustomer(int customer) {
            return customer >= 0 && customer < state.demands.size();
        }

        private boolean isCut(int cut) {
            return cut >= 0 && cut < state.cuts.size();
        }

        private boolean isPlan(int plan) {
            return plan >= 0 && plan < plans();
        }

        private int plans() {
            return (int) Math.pow(2, state.prices.size());
        }

        private List<Integer> sitesOf(int plan) {
            List<Integer> sites = new ArrayList<>();
            for (int site = 0; site < 7; site++) {
                if (plan / (int) Math.pow(2, site) % 2 == 1) {
                    sites.add(site);
                }
            }
            return sites;
        }

        private int changed(int previous) {
            state.cuts.clear();
            state.best = -1;
            return previous;
        }

        private int change(int[] a) {
            switch (a[0]) {
                case 0: return addSite(a[1]);
                case 1: return addCustomer(a[1]);
                case 2:
                    if (!isSite(a[1])) return -1;
                    if (a[2] < 0 || a[2] > 999) return -2;
                    if (state.prices.get(a[1]) == a[2]) return -5;
                    return changed(state.prices.set(a[1], a[2]));
                case 3:
                    if (!isCustomer(a[1])) return -1;
                    if (a[2] < 1 || a[2] > 20) return -2;
                    if (state.demands.get(a[1]) == a[2]) return -5;
                    return changed(state.demands.set(a[1], a[2]));
                case 4: return setRoute(a[1], a[2], a[3]);
                case 5: return setMost(a[1]);
                case 6: return exclude(a[1], a[2], a[3] != 0);
                case 7: return step();
                case 8: return solve();
                case 9: return readCut();
                case 10:
                    if (!isCut(a[1])) return -1;
                    state.cuts.remove(a[1]);
                    return state.cuts.size();
                case 11: return dropLoose();
                case 12:
                    if (text.length() == 60) return -3;
                    return text.append((char) a[1]).length();
                case 13:
                    int length = text.length();
                    text = new StringBuilder();
                    return length;
                case 14:
                    if (history.isEmpty()) return -5;
                    state = history.remove(history.size() - 1);
                    return history.size();
                case 15:
                    snapshot = state.copy();
                    return state.cuts.size();
                default:
                    if (snapshot == null) return -5;
                    state = snapshot.copy();
                    return state.cuts.size();
            }
        }

        private int addSite(int price) {
            if (price < 0 || price > 999) return -2;
            if (state.prices.size() == 7) return -3;
            int site = state.prices.size();
            Arrays.fill(state.routes[site], 100);
            Arrays.fill(state.excluding[site], false);
            state.prices.add(price);
            return changed(site);
        }

        private int addCustomer(int demand) {
            if (demand < 1 || demand > 20) return -2;
            if (state.demands.size() == 8) return -3;
            int customer = state.demands.size();
            for (int[] row : state.routes) {
                row[customer] = 100;
            }
            state.demands.add(demand);
            return changed(customer);
        }

        private int setRoute(int site, int customer, int price) {
            if (!isSite(site) || !isCustomer(customer)) return -1;
            if (price < 0 || price > 100) return -2;
            int previous = state.routes[site][customer];
            if (previous == price) return -5;
            state.routes[site][customer] = price;
            return changed(previous);
        }

        private int setMost(int sites) {
            if (sites < 1 || sites > 7) return -2;
            int previous = state.most;
            if (previous == sites) return -5;
            state.most = sites;
            state.best = -1;
            return previous;
        }

        private int exclude(int site, int other, boolean is) {
            if (!isSite(site) || !isSite(other)) return -1;
            if (site == other) return -2;
            if (state.excluding[site][other] == is) return -5;
            state.excluding[site][other] = is;
            state.excluding[other][site] = is;
            state.best = -1;
            int excluded = 0;
            for (boolean one : state.excluding[site]) {
                excluded += one ? 1 : 0;
            }
            return excluded;
        }

        private int step() {
            int plan = masterPlan();
            if (state.demands.isEmpty() || plan < 0) return -4;
            ModelCut cut = new ModelCut();
            for (int customer = state.demands.size() - 1; customer >= 0; customer--) {
                if (!isReached(plan, customer)) {
                    cut.isRay = true;
                    cut.customer = customer;
                }
            }
            if (cut.isRay) {
                return added(cut, 0);
            }
            if (state.best < 0 || cost(plan) < cost(state.best)) {
                state.best = plan;
            }
            if (cost(plan) == guess(plan)) {
                state.steps++;
                return 2;
            }
            cut.u = new int[8];
            for (int customer = 0; customer < state.demands.size(); customer++) {
                cut.u[customer] = state.routes[served(plan, customer)][customer];
            }
            return added(cut, 1);
        }

        private int added(ModelCut cut, int answer) {
            if (state.cuts.size() == 40) return -3;
            state.cuts.add(cut);
            state.steps++;
            return answer;
        }

        private int solve() {
            int had = state.cuts.size();
            int answer = step();
            if (answer < 0) return answer;
            while (answer == 0 || answer == 1) {
                answer = step();
            }
            return answer == -3 ? -3 : state.cuts.size() - had;
        }

        /** The fault, or -1, and a sign that is allowed there. */
        int[] readText(int[] numbers) {
            int at = 0;
            for (int i = 0; i < numbers.length; i++) {
                if (i > 0) {
                    if (at >= text.length() || text.charAt(at) != ',') return new int[] {at, ','};
                    at++;
                }
                int from = at;
                while (at < text.length() && at < from + 2 && "0123456789".indexOf(text.charAt(at)) >= 0) {
                    at++;
                    if (text.charAt(from) == '0') break;
                }
                if (at == from) return new int[] {at, '0'};
                numbers[i] = Integer.parseInt(text.substring(from, at));
            }
            return new int[] {at < text.length() ? at : -1, 0};
        }

        private int readCut() {
            if (state.demands.isEmpty()) return -4;
            ModelCut cut = new ModelCut();
            cut.u = new int[state.demands.size()];
            int fault = readText(cut.u)[0];
            if (fault >= 0) return -100 - fault;
            if (state.cuts.size() == 40) return -3;
            state.cuts.add(cut);
            return state.cuts.size() - 1;
        }

        private int dropLoose() {
            int plan = masterPlan();
            if (plan < 0) return -4;
            int above = guess(plan) - sitePrices(plan);
            List<ModelCut> tight = new ArrayList<>();
            for (ModelCut cut : state.cuts) {
                if (cut.isRay ? raySites(cut, plan) == 1 : priceValue(cut, plan) == above) {
                    tight.add(cut);
                }
            }
            int dropped = state.cuts.size() - tight.size();
            state.cuts = tight;
            return dropped == 0 ? -5 : dropped;
        }

        private int judge(int plan) {
            List<Integer> sites = sitesOf(plan);
            if (sites.size() > state.most) return 1;
            for (int site : sites) {
                for (int other : sites) {
                    if (state.excluding[site][other]) return 2;
                }
            }
            return reachesAll(plan) ? 0 : 3;
        }

        private boolean isAllowed(int plan) {
            return judge(plan) == 0 || judge(plan) == 3;
        }

        private int served(int plan, int customer) {
            int served = -1;
            for (int site : sitesOf(plan)) {
                int price = state.routes[site][customer];
                if (price < 100 && (served < 0 || price < state.routes[served][customer])) {
                    served = site;
                }
            }
            return served;
        }

        private boolean isReached(int plan, int customer) {
            return served(plan, customer) >= 0;
        }

        private boolean reachesAll(int plan) {
            for (int customer = 0; customer < state.demands.size(); customer++) {
                if (!isReached(plan, customer)) return false;
            }
            return true;
        }

        private int sitePrices(int plan) {
            int sum = 0;
            for (int site : sitesOf(plan)) {
                sum += state.prices.get(site);
            }
            return sum;
        }

        private int routeCost(int plan) {
            int sum = 0;
            for (int customer = 0; customer < state.demands.size(); customer++) {
                sum += state.demands.get(customer) * state.routes[served(plan, customer)][customer];
            }
            return sum;
        }

        private int cost(int plan) {
            return sitePrices(plan) + routeCost(plan);
        }

        private int raySites(ModelCut ray, int plan) {
            int sites = 0;
            for (int site : sitesOf(plan)) {
                sites += state.routes[site][ray.customer] < 100 ? 1 : 0;
            }
            return sites;
        }

        private int priceValue(ModelCut cut, int plan) {
            int value = 0;
            for (int customer = 0; customer < state.demands.size(); customer++) {
                int left = cut.u[customer];
                for (int site : sitesOf(plan)) {
                    int price = state.routes[site][customer];
                    if (price < 100 && price < cut.u[customer]) {
                        left -= cut.u[customer] - price;
                    }
                }
                value += state.demands.get(customer) * left;
            }
            return value;
        }

        private int guess(int plan) {
            int above = 0;
            for (ModelCut cut : state.cuts) {
                above = cut.isRay ? above : Math.max(above, priceValue(cut, plan));
            }
            return sitePrices(plan) + above;
        }

        private int missedRays(int plan) {
            int missed = 0;
            for (ModelCut cut : state.cuts) {
                missed += cut.isRay && raySites(cut, plan) == 0 ? 1 : 0;
            }
            return missed;
        }

        private int masterPlan() {
            int found = -1;
            for (int plan = plans() - 1; plan >= 0; plan--) {
                if (isAllowed(plan) && missedRays(plan) == 0 && (found < 0 || guess(plan) <= guess(found))) {
                    found = plan;
                }
            }
            return found;
        }

        private int tell(int[] a) {
            switch (a[0]) {
                case 17: return isPlan(a[1]) ? judge(a[1]) : -2;
                case 18: return plan(a[1], a[2]);
                case 19:
                    if (!isPlan(a[1])) return -2;
                    if (!isCustomer(a[2])) return -1;
                    return isReached(a[1], a[2]) ? served(a[1], a[2]) : -5;
                case 20: return cut(a[1], a[2]);
                case 21:
                    if (!isCut(a[1]) || !isSite(a[2])) return -1;
                    return weight(state.cuts.get(a[1]), a[2]);
                case 22:
                    if (!isCut(a[1])) return -1;
                    if (!isPlan(a[2])) return -2;
                    ModelCut cut = state.cuts.get(a[1]);
                    return cut.isRay ? raySites(cut, a[2]) : priceValue(cut, a[2]) + 1000000;
                case 23: return master(a[1]);
                case 24: return byAll(a[1]);
                default: return count(a[1]);
            }
        }

        private int weight(ModelCut cut, int site) {
            int alone = (int) Math.pow(2, site);
            return cut.isRay ? raySites(cut, alone) : priceValue(cut, 0) - priceValue(cut, alone);
        }

        private int plan(int plan, int what) {
            if (!isPlan(plan)) return -2;
            switch (what) {
                case 0: return reachesAll(plan) ? cost(plan) : -4;
                case 1: return sitePrices(plan);
                case 2: return reachesAll(plan) ? routeCost(plan) : -4;
                case 3: return guess(plan);
                case 4: return missedRays(plan);
                default: return -2;
            }
        }

        private int cut(int number, int what) {
            if (!isCut(number)) return -1;
            ModelCut cut = state.cuts.get(number);
            if (what == 0) return cut.isRay ? 0 : 1;
            if (what == 1) return cut.isRay ? cut.customer : -5;
            if (what == 2) return cut.isRay ? 1 : priceValue(cut, 0);
            if (what != 3 && what != 4) return -2;
            int broken = 0;
            int tight = 0;
            for (int plan = 0; plan < plans(); plan++) {
                if (judge(plan) == 0) {
                    int over = cut.isRay ? 1 - raySites(cut, plan) : priceValue(cut, plan) - routeCost(plan);
                    broken += over > 0 ? 1 : 0;
                    tight += over == 0 ? 1 : 0;
                }
            }
            return what == 3 ? broken : tight;
        }

        private int master(int what) {
            if (what < 0 || what > 4) return -2;
            int plan = masterPlan();
            boolean needsMaster = what == 0 || what == 1 || what == 4;
            if (needsMaster && plan < 0 || what >= 2 && state.best < 0) return -5;
            int[] told = new int[] {plan, 0, state.best, 0, 0};
            if (needsMaster) told[1] = guess(plan);
            if (what >= 2) told[3] = cost(state.best);
            told[4] = told[3] - told[1];
            return told[what];
        }

        private int byAll(int what) {
            if (what < 0 || what > 2) return -2;
            int best = -1;
            int feasible = 0;
            for (int plan = plans() - 1; plan >= 0; plan--) {
                if (judge(plan) == 0) {
                    feasible++;
                    best = best < 0 || cost(plan) <= cost(best) ? plan : best;
                }
            }
            if (what == 2) return feasible;
            return best < 0 ? -5 : what == 0 ? best : cost(best);
        }

        private int count(int what) {
            int routes = 0;
            int pairs = 0;
            int rays = 0;
            for (int site = 0; site < state.prices.size(); site++) {
                for (int customer = 0; customer < state.demands.size(); customer++) {
                    routes += state.routes[site][customer] < 100 ? 1 : 0;
                }
                for (int other = 0; other < site; other++) {
                    pairs += state.excluding[site][other] ? 1 : 0;
                }
            }
            for (ModelCut cut : state.cuts) {
                rays += cut.isRay ? 1 : 0;
            }
            int[] told = {state.prices.size(), state.demands.size(), routes, state.most, pairs,
                state.cuts.size(), rays, state.steps, history.size(), text.length()};
            return what < 0 || what >= told.length ? -2 : told[what];
        }
    }
}
