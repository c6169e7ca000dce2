import java.io.IOException;
import java.nio.file.Files;
import java.nio.file.Path;
import java.util.ArrayList;
import java.util.Arrays;
import java.util.List;

/**
 * What the tests of boundary cases share: a test of its own for each sentence of the document that names one (too
 * small, too large, empty, full, of the same size, over the end of the history, refused). Each test quotes its
 * sentence, and the quoted words have to stand in that part of ../shared/DOC.md. No object is used for more than
 * 512 calls.
 */
class Boundary {
    static final int UNKNOWN = -1;
    static final int BAD_VALUE = -2;
    static final int FULL = -3;
    static final int NOT_POSSIBLE = -4;
    static final int NONE = -5;
    static final int LEAST = Integer.MIN_VALUE;
    static final int GREATEST = Integer.MAX_VALUE;

    /** How many answers are asked of one object: with what makes it and brings it there it stays under 512. */
    private static final int ASKED_AT_ONCE = 250;
    static final int CALLS_AT_MOST = 512;

    private static String document;
    private static String part = "";
    private static String sentence = "";
    private static int sentences;
    private static int checksOfSentence = 1;
    private static int checks;
    private static int wrong;

    /** Makes an object and brings it to where a test starts; each time the same. */
    interface Start {
        SiteCuts make();
    }

    interface Call {
        int on(SiteCuts x);
    }

    interface CallWith {
        int on(SiteCuts x, int argument);
    }

    static void begin() throws IOException {
        document = Files.readString(Path.of("../shared/DOC.md"));
    }

    static void end() {
        endSentence();
        System.out.println(sentences + " sentences, " + checks + " checks, " + wrong + " wrong");
        if (wrong != 0) {
            System.exit(1);
        }
    }

    // ---- how a sentence is tested

    private static void fault(String what) {
        wrong++;
        System.out.println(part + " \"" + sentence + "\": " + what);
    }

    static void part(String heading) {
        endSentence();
        part = heading;
    }

    private static void endSentence() {
        if (checksOfSentence == 0) {
            fault("nothing is checked");
        }
        checksOfSentence = 1;
    }

    /** Begins the test of a sentence of the part of the document that is open. */
    static void sentence(String words) {
        endSentence();
        sentence = words;
        sentences++;
        checksOfSentence = 0;
        int from = document.indexOf("## " + part);
        int to = from < 0 ? -1 : document.indexOf("\n## ", from);
        String text = from < 0 ? "" : to < 0 ? document.substring(from) : document.substring(from, to);
        if (!text.contains(words)) {
            fault("the document does not say so there");
        }
    }

    static void due(String call, int got, int want) {
        checks++;
        checksOfSentence++;
        if (got != want) {
            fault(call + " answered " + got + ", due is " + want);
        }
    }

    /** The call answers an error or NONE and changes nothing: state, history, snapshot and text stay. */
    static void refused(Start start, String name, Call call, int want) {
        due(name, call.on(start.make()), want);
        Start behind = () -> with(start, call);
        for (int look = 0; look < LOOKS; look++) {
            int how = look;
            same(name + " changes nothing, look " + look, () -> looked(start, how), () -> looked(behind, how), true);
        }
    }

    /** The same for each of the arguments; a % in the name stands for it. */
    static void refused(Start start, String name, CallWith call, int want, int... arguments) {
        for (int argument : arguments) {
            refused(start, name.replace("%", String.valueOf(argument)), x -> call.on(x, argument), want);
        }
    }

    /** The call is an act: it records just the state that was before it, over the oldest one if there are 4. */
    static void act(Start start, String name, Call call, int want) {
        due(name, call.on(start.make()), want);
        int left = Math.min(4, start.make().count(8) + 1);
        due(name + ", then count(8)", with(start, call).count(8), left);
        for (int undone = 1; undone <= left; undone++) {
            int back = undone;
            SiteCuts x = undone(() -> with(start, call), back);
            due(name + " and " + back + " times undo(), then count(8)", x.count(8), left - back);
            same(name + " and " + back + " times undo()", () -> undone(start, back - 1),
                () -> undone(() -> with(start, call), back), false);
        }
    }

    /** The call answers what is due and records nothing. */
    static void noAct(Start start, String name, Call call, int want) {
        due(name, call.on(start.make()), want);
        due(name + ", then count(8)", with(start, call).count(8), start.make().count(8));
        for (int back = 1; back <= start.make().count(8); back++) {
            int times = back;
            same(name + " and " + back + " times undo()", () -> textless(undone(start, times)),
                () -> textless(undone(() -> with(start, call), times)), true);
        }
    }

    static SiteCuts with(Start start, Call call) {
        SiteCuts x = start.make();
        call.on(x);
        return x;
    }

    static SiteCuts undone(Start start, int times) {
        SiteCuts x = start.make();
        for (int i = 0; i < times; i++) {
            x.undo();
        }
        return x;
    }

    private static SiteCuts textless(SiteCuts x) {
        x.clearText();
        return x;
    }

    private static final int LOOKS = 7;

    /** What can't be asked straight away is seen by undo(), by restore() and by reading the text. */
    private static SiteCuts looked(Start start, int look) {
        if (look <= 4) {
            return undone(start, look);
        }
        return with(start, look == 5 ? x -> x.restore() : x -> x.readCut());
    }

    static void same(String what, Start one, Start other, boolean withHistory) {
        List<int[]> questions = questions(one.make());
        checks++;
        checksOfSentence++;
        for (int from = 0; from < questions.size(); from += ASKED_AT_ONCE) {
            SiteCuts x = one.make();
            SiteCuts y = other.make();
            for (int i = from; i < questions.size() && i < from + ASKED_AT_ONCE; i++) {
                int[] question = questions.get(i);
                boolean isHistory = question[0] == 0 && question[1] == 8;
                int first = ask(x, question);
                int second = ask(y, question);
                if (first != second && (withHistory || !isHistory)) {
                    fault(what + ": " + Arrays.toString(question) + " answers " + second + " in place of " + first);
                    return;
                }
            }
        }
    }

    /** All that can be asked of a state. */
    private static List<int[]> questions(SiteCuts x) {
        List<int[]> all = new ArrayList<>();
        for (int what = 0; what < 10; what++) {
            all.add(new int[] {0, what, 0});
        }
        for (int what = 0; what < 5; what++) {
            all.add(new int[] {1, what, 0});
        }
        for (int what = 0; what < 3; what++) {
            all.add(new int[] {2, what, 0});
        }
        int plans = 1 << x.count(0);
        for (int plan = 0; plan < plans; plan++) {
            all.add(new int[] {3, plan, 0});
            addAll(all, 4, plan, 5);
            addAll(all, 5, plan, x.count(1));
        }
        for (int cut = 0; cut < x.count(5); cut++) {
            addAll(all, 6, cut, 5);
            addAll(all, 7, cut, x.count(0));
            addAll(all, 8, cut, plans);
        }
        return all;
    }

    private static void addAll(List<int[]> all, int method, int first, int bound) {
        for (int second = 0; second < bound; second++) {
            all.add(new int[] {method, first, second});
        }
    }

    private static int ask(SiteCuts x, int[] question) {
        switch (question[0]) {
            case 0: return x.count(question[1]);
            case 1: return x.master(question[1]);
            case 2: return x.byAll(question[1]);
            case 3: return x.judge(question[1]);
            case 4: return x.plan(question[1], question[2]);
            case 5: return x.serves(question[1], question[2]);
            case 6: return x.cut(question[1], question[2]);
            case 7: return x.weight(question[1], question[2]);
            default: return x.value(question[1], question[2]);
        }
    }

    // ---- what the tests start from

    static SiteCuts write(SiteCuts x, String text) {
        x.clearText();
        for (int i = 0; i < text.length(); i++) {
            x.type(text.charAt(i));
        }
        return x;
    }

    static int read(SiteCuts x, String text) {
        return write(x, text).readCut();
    }

    /** As many sites and customers, at price 1 and demand 1, without routes. */
    static SiteCuts bare(int sites, int customers) {
        SiteCuts x = new SiteCuts();
        for (int site = 0; site < sites; site++) {
            x.addSite(1);
        }
        for (int customer = 0; customer < customers; customer++) {
            x.addCustomer(1);
        }
        return x;
    }

    /** A map of these prices, demands and routes. */
    static SiteCuts map(int[] prices, int[] demands, int[][] routes) {
        SiteCuts x = new SiteCuts();
        for (int price : prices) {
            x.addSite(price);
        }
        for (int demand : demands) {
            x.addCustomer(demand);
        }
        for (int site = 0; site < prices.length; site++) {
            for (int customer = 0; customer < demands.length; customer++) {
                x.setRoute(site, customer, routes[site][customer]);
            }
        }
        return x;
    }

    /** Sites 0 (10), 1 (4), 2 (30); customers 0 (2), 1 (5); 0 reaches 0 at 3, 1 reaches 1 at 2, 2 both at 1. */
    static SiteCuts three() {
        return map(new int[] {10, 4, 30}, new int[] {2, 5}, new int[][] {{3, 100}, {100, 2}, {1, 1}});
    }

    /** One customer of demand 1 that sites 0 and 1 (price 5) reach at 9. */
    static SiteCuts twins() {
        return map(new int[] {5, 5}, new int[] {1}, new int[][] {{9}, {9}});
    }

    /** Seven sites, eight customers and all routes: 71 calls. */
    static SiteCuts whole() {
        int[][] routes = new int[7][8];
        for (int site = 0; site < 7; site++) {
            for (int customer = 0; customer < 8; customer++) {
                routes[site][customer] = (site * 5 + customer * 3 + site * customer) % 11 * 9;
            }
        }
        return map(new int[] {8, 8, 8, 8, 8, 8, 8}, new int[] {1, 1, 1, 1, 1, 1, 1, 1}, routes);
    }

    /** Steps from the start need just 40 cuts if the price of the last site is 4, and more if it is 1: 72 calls. */
    static SiteCuts stubborn(int lastPrice) {
        SiteCuts x = map(new int[] {1, 1, 2, 1, 2, 1, lastPrice}, new int[] {2, 12, 4, 9, 10, 9, 7, 12}, new int[][] {
            {22, 4, 100, 93, 18, 21, 72, 100}, {57, 13, 24, 100, 1, 100, 59, 100}, {69, 96, 68, 45, 10, 12, 47, 81},
            {100, 20, 100, 27, 100, 78, 100, 19}, {67, 13, 85, 51, 91, 33, 35, 10}, {52, 57, 54, 100, 25, 100, 7, 30},
            {52, 74, 2, 61, 100, 28, 55, 17}});
        x.setMost(3);
        return x;
    }

    /** Solved, with a text, a snapshot of other places, a full history, two rays, a price cut, a best plan. */
    static SiteCuts rich() {
        SiteCuts x = write(new SiteCuts(), "3,2");
        x.addSite(77);
        x.keep();
        x.setPrice(0, 10);
        x.addSite(4);
        x.addSite(30);
        x.addCustomer(2);
        x.addCustomer(5);
        x.setRoute(0, 0, 3);
        x.setRoute(1, 1, 2);
        x.setRoute(2, 0, 1);
        x.setRoute(2, 1, 1);
        x.setMost(3);
        x.exclude(0, 2, true);
        x.solve();
        return x;
    }

    /** Twins with as many price cuts of value 0, and the text of one more. */
    static SiteCuts filled(int cuts) {
        return filled(twins(), "0", cuts);
    }

    static SiteCuts filled(SiteCuts x, String text, int cuts) {
        write(x, text);
        for (int cut = 0; cut < cuts; cut++) {
            x.readCut();
        }
        return x;
    }

    /** A ray of a customer that no site reaches: no plan fulfils it. */
    static SiteCuts hopeless() {
        SiteCuts x = twins();
        x.addCustomer(1);
        x.step();
        x.step();
        return x;
    }

    /** Two sites that both are needed, for customers 1 and 2, and both reach 0, all for nothing; solved by rays. */
    static SiteCuts bothForNothing() {
        SiteCuts x = map(new int[] {0, 0}, new int[] {1, 1, 1}, new int[][] {{0, 0, 100}, {0, 100, 0}});
        x.solve();
        return x;
    }
}
