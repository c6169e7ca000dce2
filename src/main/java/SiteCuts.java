/** Sites that are opened to serve customers, and a master plan that is improved by cuts. */
public final class SiteCuts {
    public static final int UNKNOWN = -1;
    public static final int BAD_VALUE = -2;
    public static final int FULL = -3;
    public static final int NOT_POSSIBLE = -4;
    public static final int NONE = -5;

    private static final int SITES_AT_MOST = 7;
    private static final int CUSTOMERS_AT_MOST = 8;
    private static final int CUTS_AT_MOST = 40;
    private static final int STATES_AT_MOST = 4;
    private static final int TEXT_AT_MOST = 60;
    private static final int SITE_PRICE_AT_MOST = 999;
    private static final int DEMAND_AT_MOST = 20;

    /** The price that stands for a route that there is not: it is above all numbers u of price cuts. */
    private static final int NO_ROUTE = 100;
    private static final int NO_PLAN = -1;
    private static final int NO_CUSTOMER = -1;
    private static final int NO_SITE = -1;
    private static final int NO_FAULT = -1;

    private static final int FEASIBLE = 0;
    private static final int TOO_MANY_SITES = 1;
    private static final int EXCLUDING_SITES = 2;
    private static final int CUSTOMER_NOT_REACHED = 3;

    private static final int RAY_ADDED = 0;
    private static final int PRICE_CUT_ADDED = 1;
    private static final int ALL_SOLVED = 2;

    /** Values of price cuts may be below 0; told with this added, they can't be taken for errors. */
    private static final int VALUE_SHIFT = 1000000;
    private static final int FAULT_SHIFT = -100;

    private final State now;
    /** What step() and solve() change is known only behind them: the state ahead of them waits here. */
    private final State before;
    private final State snapshot;
    private boolean hasSnapshot;
    private final History history;
    private final CutText text;
    /** A row for the numbers u of a price cut, made once and used again. */
    private final int[] numbers;

    public SiteCuts() {
        now = new State();
        before = new State();
        snapshot = new State();
        hasSnapshot = false;
        history = new History();
        text = new CutText();
        numbers = new int[CUSTOMERS_AT_MOST];
    }

    // ---- sites and customers

    public int addSite(int price) {
        if (!isSitePrice(price)) {
            return BAD_VALUE;
        }
        if (now.places.siteCount >= SITES_AT_MOST) {
            return FULL;
        }
        history.record(now);
        now.forgetCuts();
        return now.places.appendSite(price);
    }

    public int addCustomer(int demand) {
        if (!isDemand(demand)) {
            return BAD_VALUE;
        }
        if (now.places.customerCount >= CUSTOMERS_AT_MOST) {
            return FULL;
        }
        history.record(now);
        now.forgetCuts();
        return now.places.appendCustomer(demand);
    }

    public int setPrice(int site, int price) {
        if (!now.places.isSite(site)) {
            return UNKNOWN;
        }
        if (!isSitePrice(price)) {
            return BAD_VALUE;
        }
        int previous = now.places.sitePrices[site];
        if (previous == price) {
            return NONE;
        }
        history.record(now);
        now.forgetCuts();
        now.places.sitePrices[site] = price;
        return previous;
    }

    public int setDemand(int customer, int demand) {
        if (!now.places.isCustomer(customer)) {
            return UNKNOWN;
        }
        if (!isDemand(demand)) {
            return BAD_VALUE;
        }
        int previous = now.places.demands[customer];
        if (previous == demand) {
            return NONE;
        }
        history.record(now);
        now.forgetCuts();
        now.places.demands[customer] = demand;
        return previous;
    }

    public int setRoute(int site, int customer, int price) {
        if (!now.places.isSite(site) || !now.places.isCustomer(customer)) {
            return UNKNOWN;
        }
        if (price < 0 || price > NO_ROUTE) {
            return BAD_VALUE;
        }
        int previous = now.places.routePrices[site][customer];
        if (previous == price) {
            return NONE;
        }
        history.record(now);
        now.forgetCuts();
        now.places.routePrices[site][customer] = price;
        return previous;
    }

    public int setMost(int sites) {
        if (sites < 1 || sites > SITES_AT_MOST) {
            return BAD_VALUE;
        }
        int previous = now.places.most;
        if (previous == sites) {
            return NONE;
        }
        history.record(now);
        now.forgetBest();
        now.places.most = sites;
        return previous;
    }

    public int exclude(int site, int other, boolean is) {
        if (!now.places.isSite(site) || !now.places.isSite(other)) {
            return UNKNOWN;
        }
        if (site == other) {
            return BAD_VALUE;
        }
        if (now.places.areExcluding(site, other) == is) {
            return NONE;
        }
        history.record(now);
        now.forgetBest();
        now.places.turnExclusion(site, other);
        return Integer.bitCount(now.places.excluded[site]);
    }

    // ---- cuts

    public int step() {
        before.copyFrom(now);
        int answer = now.makeStep(numbers);
        if (answer < 0) {
            return answer;
        }
        history.record(before);
        return answer;
    }

    public int solve() {
        before.copyFrom(now);
        int answer = now.makeStep(numbers);
        if (answer < 0) {
            return answer;
        }
        for (int added = 0; added <= CUTS_AT_MOST && isCutAdded(answer); added++) {
            answer = now.makeStep(numbers);
        }
        if (answer == FULL) {
            now.copyFrom(before);
            return FULL;
        }
        history.record(before);
        return now.cuts.amount - before.cuts.amount;
    }

    public int readCut() {
        if (now.places.customerCount == 0) {
            return NOT_POSSIBLE;
        }
        int fault = text.readNumbers(numbers, now.places.customerCount);
        if (fault != NO_FAULT) {
            return FAULT_SHIFT - fault;
        }
        if (now.cuts.isFull()) {
            return FULL;
        }
        history.record(now);
        return now.cuts.appendPriceCut(now.places, numbers);
    }

    public int drop(int cut) {
        if (!now.cuts.isCut(cut)) {
            return UNKNOWN;
        }
        history.record(now);
        now.cuts.remove(cut);
        return now.cuts.amount;
    }

    public int dropLoose() {
        int masterPlan = now.findMasterPlan();
        if (masterPlan == NO_PLAN) {
            return NOT_POSSIBLE;
        }
        int loose = now.cuts.countLoose(masterPlan);
        if (loose == 0) {
            return NONE;
        }
        history.record(now);
        now.cuts.removeLoose(masterPlan);
        return loose;
    }

    // ---- texts

    public int type(char character) {
        if (text.isFull()) {
            return FULL;
        }
        text.append(character);
        return text.length;
    }

    public int clearText() {
        int length = text.length;
        text.length = 0;
        return length;
    }

    // ---- history

    public int undo() {
        if (history.amount == 0) {
            return NONE;
        }
        history.takeLatest(now);
        return history.amount;
    }

    public int keep() {
        snapshot.copyFrom(now);
        hasSnapshot = true;
        return now.cuts.amount;
    }

    public int restore() {
        if (!hasSnapshot) {
            return NONE;
        }
        history.record(now);
        now.copyFrom(snapshot);
        return now.cuts.amount;
    }

    // ---- what is told

    public int judge(int plan) {
        if (!now.places.isPlan(plan)) {
            return BAD_VALUE;
        }
        return now.places.verdictOf(plan);
    }

    public int plan(int plan, int what) {
        if (!now.places.isPlan(plan) || what < 0 || what > 4) {
            return BAD_VALUE;
        }
        boolean asksForRoutes = what == 0 || what == 2;
        if (asksForRoutes && !now.places.reachesAll(plan)) {
            return NOT_POSSIBLE;
        }
        switch (what) {
            case 0:
                return now.places.costOf(plan);
            case 1:
                return now.places.sitePricesOf(plan);
            case 2:
                return now.places.routeCostOf(plan);
            case 3:
                return now.guessOf(plan);
            default:
                return now.cuts.countMissedRays(plan);
        }
    }

    public int serves(int plan, int customer) {
        if (!now.places.isPlan(plan)) {
            return BAD_VALUE;
        }
        if (!now.places.isCustomer(customer)) {
            return UNKNOWN;
        }
        int site = now.places.cheapestSite(plan, customer);
        return site == NO_SITE ? NONE : site;
    }

    public int cut(int cut, int what) {
        if (!now.cuts.isCut(cut)) {
            return UNKNOWN;
        }
        switch (what) {
            case 0:
                return now.cuts.isRay(cut) ? 0 : 1;
            case 1:
                return now.cuts.isRay(cut) ? now.cuts.customers[cut] : NONE;
            case 2:
                return now.cuts.starts[cut];
            case 3:
                return now.countPlansThatBreak(cut);
            case 4:
                return now.countPlansThatAreTight(cut);
            default:
                return BAD_VALUE;
        }
    }

    public int weight(int cut, int site) {
        if (!now.cuts.isCut(cut) || !now.places.isSite(site)) {
            return UNKNOWN;
        }
        return now.cuts.weights[cut][site];
    }

    public int value(int cut, int plan) {
        if (!now.cuts.isCut(cut)) {
            return UNKNOWN;
        }
        if (!now.places.isPlan(plan)) {
            return BAD_VALUE;
        }
        if (now.cuts.isRay(cut)) {
            return now.cuts.weightOf(cut, plan);
        }
        return now.cuts.valueOf(cut, plan) + VALUE_SHIFT;
    }

    public int master(int what) {
        switch (what) {
            case 0:
                return planOrNone(now.findMasterPlan());
            case 1:
                return lowerBound();
            case 2:
                return planOrNone(now.best);
            case 3:
                return costOrNone(now.best);
            case 4:
                return gap();
            default:
                return BAD_VALUE;
        }
    }

    public int byAll(int what) {
        switch (what) {
            case 0:
                return planOrNone(now.places.findBestPlan());
            case 1:
                return costOrNone(now.places.findBestPlan());
            case 2:
                return now.places.countFeasiblePlans();
            default:
                return BAD_VALUE;
        }
    }

    public int count(int what) {
        switch (what) {
            case 0:
                return now.places.siteCount;
            case 1:
                return now.places.customerCount;
            case 2:
                return now.places.countRoutes();
            case 3:
                return now.places.most;
            case 4:
                return now.places.countExcludingPairs();
            case 5:
                return now.cuts.amount;
            case 6:
                return now.cuts.countRays();
            case 7:
                return now.steps;
            case 8:
                return history.amount;
            case 9:
                return text.length;
            default:
                return BAD_VALUE;
        }
    }

    private int lowerBound() {
        int masterPlan = now.findMasterPlan();
        return masterPlan == NO_PLAN ? NONE : now.guessOf(masterPlan);
    }

    private int costOrNone(int plan) {
        return plan == NO_PLAN ? NONE : now.places.costOf(plan);
    }

    private int gap() {
        int masterPlan = now.findMasterPlan();
        if (masterPlan == NO_PLAN || now.best == NO_PLAN) {
            return NONE;
        }
        return now.places.costOf(now.best) - now.guessOf(masterPlan);
    }

    private static int planOrNone(int plan) {
        return plan == NO_PLAN ? NONE : plan;
    }

    private static boolean isCutAdded(int answer) {
        return answer == RAY_ADDED || answer == PRICE_CUT_ADDED;
    }

    private static boolean isSitePrice(int price) {
        return price >= 0 && price <= SITE_PRICE_AT_MOST;
    }

    private static boolean isDemand(int demand) {
        return demand >= 1 && demand <= DEMAND_AT_MOST;
    }

    private static boolean isIn(int plan, int site) {
        return (plan >> site & 1) != 0;
    }

    /** Sites, customers and what is asked of plans: all that does not depend on cuts. */
    private static final class Places {
        int siteCount;
        int customerCount;
        int most;
        final int[] sitePrices;
        final int[] demands;
        final int[][] routePrices;
        /** Of each site the others that it excludes, as bits. */
        final int[] excluded;

        Places() {
            siteCount = 0;
            customerCount = 0;
            most = SITES_AT_MOST;
            sitePrices = new int[SITES_AT_MOST];
            demands = new int[CUSTOMERS_AT_MOST];
            routePrices = new int[SITES_AT_MOST][CUSTOMERS_AT_MOST];
            excluded = new int[SITES_AT_MOST];
        }

        void copyFrom(Places other) {
            siteCount = other.siteCount;
            customerCount = other.customerCount;
            most = other.most;
            for (int site = 0; site < SITES_AT_MOST; site++) {
                sitePrices[site] = other.sitePrices[site];
                excluded[site] = other.excluded[site];
                for (int customer = 0; customer < CUSTOMERS_AT_MOST; customer++) {
                    routePrices[site][customer] = other.routePrices[site][customer];
                }
            }
            for (int customer = 0; customer < CUSTOMERS_AT_MOST; customer++) {
                demands[customer] = other.demands[customer];
            }
        }

        boolean isSite(int site) {
            return site >= 0 && site < siteCount;
        }

        boolean isCustomer(int customer) {
            return customer >= 0 && customer < customerCount;
        }

        boolean isPlan(int plan) {
            return plan >= 0 && plan < planCount();
        }

        int planCount() {
            return 1 << siteCount;
        }

        int appendSite(int price) {
            int site = siteCount;
            if (site >= SITES_AT_MOST) {
                return FULL;
            }
            sitePrices[site] = price;
            excluded[site] = 0;
            for (int customer = 0; customer < customerCount; customer++) {
                routePrices[site][customer] = NO_ROUTE;
            }
            siteCount++;
            return site;
        }

        int appendCustomer(int demand) {
            int customer = customerCount;
            if (customer >= CUSTOMERS_AT_MOST) {
                return FULL;
            }
            demands[customer] = demand;
            for (int site = 0; site < siteCount; site++) {
                routePrices[site][customer] = NO_ROUTE;
            }
            customerCount++;
            return customer;
        }

        boolean areExcluding(int site, int other) {
            return isIn(excluded[site], other);
        }

        void turnExclusion(int site, int other) {
            excluded[site] ^= 1 << other;
            excluded[other] ^= 1 << site;
        }

        boolean hasRoute(int site, int customer) {
            return routePrices[site][customer] != NO_ROUTE;
        }

        boolean isAllowed(int plan) {
            return Integer.bitCount(plan) <= most && !hasExcludingSites(plan);
        }

        boolean hasExcludingSites(int plan) {
            for (int site = 0; site < siteCount; site++) {
                if (isIn(plan, site) && (plan & excluded[site]) != 0) {
                    return true;
                }
            }
            return false;
        }

        int verdictOf(int plan) {
            if (Integer.bitCount(plan) > most) {
                return TOO_MANY_SITES;
            }
            if (hasExcludingSites(plan)) {
                return EXCLUDING_SITES;
            }
            return reachesAll(plan) ? FEASIBLE : CUSTOMER_NOT_REACHED;
        }

        /** NO_ROUTE, which is more than all prices, if the customer is not reached. */
        int leastRoutePrice(int plan, int customer) {
            int least = NO_ROUTE;
            for (int site = 0; site < siteCount; site++) {
                if (isIn(plan, site)) {
                    least = Math.min(least, routePrices[site][customer]);
                }
            }
            return least;
        }

        /** The lowest of the sites from which the route costs least. */
        int cheapestSite(int plan, int customer) {
            int least = leastRoutePrice(plan, customer);
            for (int site = 0; site < siteCount; site++) {
                if (isIn(plan, site) && hasRoute(site, customer) && routePrices[site][customer] == least) {
                    return site;
                }
            }
            return NO_SITE;
        }

        int lowestMissedCustomer(int plan) {
            for (int customer = 0; customer < customerCount; customer++) {
                if (leastRoutePrice(plan, customer) == NO_ROUTE) {
                    return customer;
                }
            }
            return NO_CUSTOMER;
        }

        boolean reachesAll(int plan) {
            return lowestMissedCustomer(plan) == NO_CUSTOMER;
        }

        int sitePricesOf(int plan) {
            int sum = 0;
            for (int site = 0; site < siteCount; site++) {
                if (isIn(plan, site)) {
                    sum += sitePrices[site];
                }
            }
            return sum;
        }

        int routeCostOf(int plan) {
            int sum = 0;
            for (int customer = 0; customer < customerCount; customer++) {
                sum += demands[customer] * leastRoutePrice(plan, customer);
            }
            return sum;
        }

        int costOf(int plan) {
            return sitePricesOf(plan) + routeCostOf(plan);
        }

        boolean isFeasible(int plan) {
            return isAllowed(plan) && reachesAll(plan);
        }

        int findBestPlan() {
            int best = NO_PLAN;
            int least = 0;
            for (int plan = 0; plan < planCount(); plan++) {
                if (isFeasible(plan) && (best == NO_PLAN || costOf(plan) < least)) {
                    best = plan;
                    least = costOf(plan);
                }
            }
            return best;
        }

        int countFeasiblePlans() {
            int found = 0;
            for (int plan = 0; plan < planCount(); plan++) {
                if (isFeasible(plan)) {
                    found++;
                }
            }
            return found;
        }

        int countRoutes() {
            int found = 0;
            for (int site = 0; site < siteCount; site++) {
                for (int customer = 0; customer < customerCount; customer++) {
                    if (hasRoute(site, customer)) {
                        found++;
                    }
                }
            }
            return found;
        }

        int countExcludingPairs() {
            int found = 0;
            for (int site = 0; site < siteCount; site++) {
                for (int other = 0; other < site; other++) {
                    if (areExcluding(site, other)) {
                        found++;
                    }
                }
            }
            return found;
        }
    }

    /**
     * The cuts in their order. The places that a cut was made from stay as they are as long as there are
     * cuts, so that a start and a weight of each site tell all of it, and the numbers u need not be held.
     */
    private static final class Cuts {
        int amount;
        /** Of a ray its customer, of a price cut NO_CUSTOMER. */
        final int[] customers;
        /** Of a ray how many sites it asks for, of a price cut its value for the plan without any site. */
        final int[] starts;
        final int[][] weights;

        Cuts() {
            amount = 0;
            customers = new int[CUTS_AT_MOST];
            starts = new int[CUTS_AT_MOST];
            weights = new int[CUTS_AT_MOST][SITES_AT_MOST];
        }

        void copyFrom(Cuts other) {
            amount = other.amount;
            for (int cut = 0; cut < amount && cut < CUTS_AT_MOST; cut++) {
                copyCut(other, cut, cut);
            }
        }

        void copyCut(Cuts other, int from, int to) {
            customers[to] = other.customers[from];
            starts[to] = other.starts[from];
            for (int site = 0; site < SITES_AT_MOST; site++) {
                weights[to][site] = other.weights[from][site];
            }
        }

        boolean isCut(int cut) {
            return cut >= 0 && cut < amount;
        }

        boolean isFull() {
            return amount >= CUTS_AT_MOST;
        }

        boolean isRay(int cut) {
            return customers[cut] != NO_CUSTOMER;
        }

        int appendRay(Places places, int customer) {
            int cut = amount;
            if (cut >= CUTS_AT_MOST) {
                return FULL;
            }
            customers[cut] = customer;
            starts[cut] = 1;
            for (int site = 0; site < places.siteCount; site++) {
                weights[cut][site] = places.hasRoute(site, customer) ? 1 : 0;
            }
            amount++;
            return cut;
        }

        int appendPriceCut(Places places, int[] numbers) {
            int cut = amount;
            if (cut >= CUTS_AT_MOST) {
                return FULL;
            }
            customers[cut] = NO_CUSTOMER;
            starts[cut] = 0;
            for (int customer = 0; customer < places.customerCount; customer++) {
                starts[cut] += places.demands[customer] * numbers[customer];
            }
            for (int site = 0; site < places.siteCount; site++) {
                weights[cut][site] = savedBy(places, site, numbers);
            }
            amount++;
            return cut;
        }

        /** By how much a site makes less what is paid at the prices u; a missing route is above all u. */
        static int savedBy(Places places, int site, int[] numbers) {
            int saved = 0;
            for (int customer = 0; customer < places.customerCount; customer++) {
                int less = numbers[customer] - places.routePrices[site][customer];
                saved += places.demands[customer] * Math.max(0, less);
            }
            return saved;
        }

        void remove(int cut) {
            for (int next = cut + 1; next < amount; next++) {
                copyCut(this, next, next - 1);
            }
            amount--;
        }

        int weightOf(int cut, int plan) {
            int sum = 0;
            for (int site = 0; site < SITES_AT_MOST; site++) {
                if (isIn(plan, site)) {
                    sum += weights[cut][site];
                }
            }
            return sum;
        }

        /** The value of a price cut. */
        int valueOf(int cut, int plan) {
            return starts[cut] - weightOf(cut, plan);
        }

        /** The greatest value of all price cuts, or 0, if that is greater. */
        int greatestValue(int plan) {
            int greatest = 0;
            for (int cut = 0; cut < amount; cut++) {
                if (!isRay(cut)) {
                    greatest = Math.max(greatest, valueOf(cut, plan));
                }
            }
            return greatest;
        }

        int countRays() {
            int found = 0;
            for (int cut = 0; cut < amount; cut++) {
                if (isRay(cut)) {
                    found++;
                }
            }
            return found;
        }

        int countMissedRays(int plan) {
            int found = 0;
            for (int cut = 0; cut < amount; cut++) {
                if (isRay(cut) && weightOf(cut, plan) == 0) {
                    found++;
                }
            }
            return found;
        }

        boolean isLoose(int cut, int masterPlan, int greatestValue) {
            if (isRay(cut)) {
                return weightOf(cut, masterPlan) > 1;
            }
            return valueOf(cut, masterPlan) < greatestValue;
        }

        int countLoose(int masterPlan) {
            int greatestValue = greatestValue(masterPlan);
            int found = 0;
            for (int cut = 0; cut < amount; cut++) {
                if (isLoose(cut, masterPlan, greatestValue)) {
                    found++;
                }
            }
            return found;
        }

        void removeLoose(int masterPlan) {
            int greatestValue = greatestValue(masterPlan);
            int left = 0;
            for (int cut = 0; cut < amount; cut++) {
                if (!isLoose(cut, masterPlan, greatestValue)) {
                    copyCut(this, cut, left);
                    left++;
                }
            }
            amount = left;
        }
    }

    /** All that undo and the snapshot bring back. */
    private static final class State {
        final Places places;
        final Cuts cuts;
        int best;
        int steps;

        State() {
            places = new Places();
            cuts = new Cuts();
            best = NO_PLAN;
            steps = 0;
        }

        void copyFrom(State other) {
            places.copyFrom(other.places);
            cuts.copyFrom(other.cuts);
            best = other.best;
            steps = other.steps;
        }

        void forgetBest() {
            best = NO_PLAN;
        }

        void forgetCuts() {
            cuts.amount = 0;
            forgetBest();
        }

        int guessOf(int plan) {
            return places.sitePricesOf(plan) + cuts.greatestValue(plan);
        }

        boolean isForMaster(int plan) {
            return places.isAllowed(plan) && cuts.countMissedRays(plan) == 0;
        }

        int findMasterPlan() {
            int found = NO_PLAN;
            int least = 0;
            for (int plan = 0; plan < places.planCount(); plan++) {
                if (isForMaster(plan)) {
                    int guess = guessOf(plan);
                    if (found == NO_PLAN || guess < least) {
                        found = plan;
                        least = guess;
                    }
                }
            }
            return found;
        }

        /** All that can fail is looked at ahead of the first change: an error has to leave all as it was. */
        int makeStep(int[] numbers) {
            if (places.customerCount == 0) {
                return NOT_POSSIBLE;
            }
            int plan = findMasterPlan();
            if (plan == NO_PLAN) {
                return NOT_POSSIBLE;
            }
            int missed = places.lowestMissedCustomer(plan);
            boolean isSolved = missed == NO_CUSTOMER && places.costOf(plan) == guessOf(plan);
            if (!isSolved && cuts.isFull()) {
                return FULL;
            }
            steps++;
            if (missed != NO_CUSTOMER) {
                cuts.appendRay(places, missed);
                return RAY_ADDED;
            }
            improveBest(plan);
            if (isSolved) {
                return ALL_SOLVED;
            }
            for (int customer = 0; customer < places.customerCount; customer++) {
                numbers[customer] = places.leastRoutePrice(plan, customer);
            }
            cuts.appendPriceCut(places, numbers);
            return PRICE_CUT_ADDED;
        }

        void improveBest(int plan) {
            if (best == NO_PLAN || places.costOf(plan) < places.costOf(best)) {
                best = plan;
            }
        }

        int countPlansThatBreak(int cut) {
            int found = 0;
            for (int plan = 0; plan < places.planCount(); plan++) {
                if (places.isFeasible(plan) && isBroken(cut, plan)) {
                    found++;
                }
            }
            return found;
        }

        boolean isBroken(int cut, int plan) {
            if (cuts.isRay(cut)) {
                return cuts.weightOf(cut, plan) == 0;
            }
            return cuts.valueOf(cut, plan) > places.routeCostOf(plan);
        }

        int countPlansThatAreTight(int cut) {
            int found = 0;
            for (int plan = 0; plan < places.planCount(); plan++) {
                if (places.isFeasible(plan) && isTight(cut, plan)) {
                    found++;
                }
            }
            return found;
        }

        boolean isTight(int cut, int plan) {
            if (cuts.isRay(cut)) {
                return cuts.weightOf(cut, plan) == 1;
            }
            return cuts.valueOf(cut, plan) == places.routeCostOf(plan);
        }
    }

    /** The latest states, the oldest first; the states themselves are made once and change their places. */
    private static final class History {
        final State[] states;
        int amount;

        History() {
            states = new State[STATES_AT_MOST];
            for (int i = 0; i < STATES_AT_MOST; i++) {
                states[i] = new State();
            }
            amount = 0;
        }

        void record(State state) {
            if (amount >= STATES_AT_MOST) {
                moveOldestToEnd();
                amount = STATES_AT_MOST - 1;
            }
            states[amount].copyFrom(state);
            amount++;
        }

        void moveOldestToEnd() {
            State oldest = states[0];
            for (int i = 1; i < STATES_AT_MOST; i++) {
                states[i - 1] = states[i];
            }
            states[STATES_AT_MOST - 1] = oldest;
        }

        void takeLatest(State state) {
            if (amount > 0) {
                amount--;
                state.copyFrom(states[amount]);
            }
        }
    }

    /** The text of a price cut, as it is typed. */
    private static final class CutText {
        final char[] characters;
        int length;

        CutText() {
            characters = new char[TEXT_AT_MOST];
            length = 0;
        }

        boolean isFull() {
            return length >= TEXT_AT_MOST;
        }

        void append(char character) {
            if (length < TEXT_AT_MOST) {
                characters[length] = character;
                length++;
            }
        }

        /** Reads as many numbers as are wanted; answers the fault, or NO_FAULT. */
        int readNumbers(int[] numbers, int wanted) {
            int at = 0;
            for (int i = 0; i < wanted; i++) {
                if (i > 0) {
                    if (!isCommaAt(at)) {
                        return at;
                    }
                    at++;
                }
                if (!isDigitAt(at)) {
                    return at;
                }
                int number = digitAt(at);
                at++;
                if (number != 0 && isDigitAt(at)) {
                    number = number * 10 + digitAt(at);
                    at++;
                }
                numbers[i] = number;
            }
            return at < length ? at : NO_FAULT;
        }

        boolean isCommaAt(int at) {
            return at >= 0 && at < length && characters[at] == ',';
        }

        boolean isDigitAt(int at) {
            return at >= 0 && at < length && characters[at] >= '0' && characters[at] <= '9';
        }

        int digitAt(int at) {
            return isDigitAt(at) ? characters[at] - '0' : 0;
        }
    }
}
