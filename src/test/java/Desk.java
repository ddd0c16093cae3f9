import java.util.ArrayList;
import java.util.List;

/**
 * One object and the calls made on it, told by name ("lend 0 1 999"), so that they can be made again on another one.
 * No object gets more calls than the document promises answers for.
 */
final class Desk {
    private static final int MOST_CALLS = 512;
    private final BodyAccounts x = new BodyAccounts();
    private final List<String> calls = new ArrayList<>();

    static Desk of(String text) {
        Desk desk = new Desk();
        desk.tell(text);
        return desk;
    }

    /** Feeds a text and makes it the branch. */
    int tell(String text) {
        feed(text);
        return call("branch");
    }

    void feed(String text) {
        for (int i = 0; i < text.length(); i++) {
            call("feed " + (int) text.charAt(i));
        }
    }

    void times(int n, String call) {
        for (int k = 0; k < n; k++) {
            call(call);
        }
    }

    void due(String call, int want) {
        Check.due(call + " (call " + calls.size() + ")", call(call), want);
    }

    /** The answers of one call with each of several last arguments, the first of which is 'from'. */
    void row(String call, int from, int... wants) {
        for (int k = 0; k < wants.length; k++) {
            due(call + " " + (from + k), wants[k]);
        }
    }

    /** The call is refused so, and nothing changes by it. */
    void refused(String call, int want) {
        tried(call, want);
    }

    /** The call answers so, and two objects, one with it and one without it, are alike. */
    void tried(String call, int want) {
        Desk with = again();
        Check.due(call + " (call " + calls.size() + ")", with.call(call), want);
        with.alike("as it was behind " + call, this);
    }

    /** Two objects are alike in all that allThatIsSo() asks. */
    void alike(String name, Desk other) {
        Check.due(name, again().allThatIsSo(true).equals(other.again().allThatIsSo(true)) ? 1 : 0, 1);
    }

    /** A text with a fault, told where there is no letter yet: its answer and place, and nothing else has changed. */
    void faulty(String text, int answer, int fault) {
        Desk with = again();
        Check.due("branch() of '" + text + "'", with.tell(text), answer);
        Check.due("fault() of '" + text + "'", with.call("fault"), fault);
        Check.due("all else is as it was by '" + text + "'", with.allThatIsSo(false).equals(again().allThatIsSo(false)) ? 1 : 0, 1);
    }

    private Desk again() {
        Desk desk = new Desk();
        for (String call : calls) {
            desk.call(call);
        }
        return desk;
    }

    /** The state as far as calls show it; the object is spent then, for what can be undone, the images and the text are asked too. */
    private List<Integer> allThatIsSo(boolean faultToo) {
        List<Integer> all = new ArrayList<>();
        for (int what = 0; what <= 13; what++) {
            all.add(call("told " + what));
        }
        if (faultToo) {
            all.add(call("fault"));
        }
        for (int k = 0; k < all.get(0); k++) {
            all.add(call("part " + k));
        }
        int customers = all.get(1);
        for (int c = 0; c < customers; c++) {
            askCustomer(all, c);
        }
        for (int what = 0; what < 3; what++) {
            all.add(call("has " + what));
        }
        all.add(call("look"));
        all.add(call("judge"));
        all.add(call("seed 1"));
        askPast(all, customers);
        askText(all);
        return all;
    }

    private void askCustomer(List<Integer> all, int c) {
        for (int what = 0; what < 5; what++) {
            all.add(call("customer " + c + " " + what));
        }
        for (int d = 0; d < c; d++) {
            all.add(call("owes " + c + " " + d));
        }
        for (int t = 0; t < all.get(2); t++) {
            all.add(call("can " + c + " " + t));
        }
        for (int i = -1; i < all.get(9); i++) {
            all.add(call("plan " + c + " 4 " + i));
        }
        all.add(call("hat " + c));
    }

    private void askPast(List<Integer> all, int customers) {
        boolean more = true;
        for (int k = 0; k <= 20 && more; k++) {
            int left = call("undo");
            all.add(left);
            more = left >= 0;
            askBalances(all, customers);
        }
        for (int i = 0; i < 2; i++) {
            all.add(call("goBack " + i));
            all.add(call("seed 1"));
            askBalances(all, customers);
        }
    }

    private void askBalances(List<Integer> all, int customers) {
        all.add(call("told 4"));
        for (int c = 0; c < customers; c++) {
            all.add(call("customer " + c + " 0"));
        }
    }

    private void askText(List<Integer> all) {
        all.add(call("tear"));
        all.add(call("branch"));
        all.add(call("fault"));
        for (int what = 0; what < 3; what++) {
            all.add(call("told " + what));
        }
    }

    int call(String call) {
        calls.add(call);
        if (calls.size() > MOST_CALLS) {
            Check.due("calls on one object", calls.size(), MOST_CALLS);
        }
        String[] words = call.split(" ");
        int a = words.length > 1 ? Integer.parseInt(words[1]) : 0;
        if (words[0].equals("see")) {
            return x.see(a, Boolean.parseBoolean(words[2]));
        }
        int b = words.length > 2 ? Integer.parseInt(words[2]) : 0;
        int c = words.length > 3 ? Integer.parseInt(words[3]) : 0;
        switch (words.length) {
            case 1:
                return callNone(words[0]);
            case 2:
                return callOne(words[0], a);
            case 3:
                return callTwo(words[0], a, b);
            default:
                return callThree(words[0], a, b, c);
        }
    }

    private int callNone(String name) {
        switch (name) {
            case "branch":
                return x.branch();
            case "fault":
                return x.fault();
            case "undo":
                return x.undo();
            case "look":
                return x.look();
            case "tear":
                return x.tear();
            case "judge":
                return x.judge();
            default:
                throw new IllegalArgumentException(name);
        }
    }

    private int callOne(String name, int a) {
        switch (name) {
            case "feed":
                return x.feed(a);
            case "told":
                return x.told(a);
            case "part":
                return x.part(a);
            case "month":
                return x.month(a);
            case "drift":
                return x.drift(a);
            case "hat":
                return x.hat(a);
            case "spending":
                return x.spending(a);
            case "order":
                return x.order(a);
            case "has":
                return x.has(a);
            case "seed":
                return x.seed(a);
            case "keep":
                return x.keep(a);
            case "goBack":
                return x.goBack(a);
            default:
                throw new IllegalArgumentException(name);
        }
    }

    private int callTwo(String name, int a, int b) {
        switch (name) {
            case "customer":
                return x.customer(a, b);
            case "owes":
                return x.owes(a, b);
            case "can":
                return x.can(a, b);
            case "spend":
                return x.spend(a, b);
            case "must":
                return x.must(a, b);
            case "asOne":
                return x.asOne(a, b);
            case "wage":
                return x.wage(a, b);
            case "write":
                return x.write(a, b);
            default:
                throw new IllegalArgumentException(name);
        }
    }

    private int callThree(String name, int a, int b, int c) {
        switch (name) {
            case "lend":
                return x.lend(a, b, c);
            case "payBack":
                return x.payBack(a, b, c);
            case "able":
                return x.able(a, b, c);
            case "plan":
                return x.plan(a, b, c);
            case "loan":
                return x.loan(a, b, c);
            default:
                throw new IllegalArgumentException(name);
        }
    }
}
