import java.util.ArrayList;
import java.util.List;

/** What every test needs: answers compared, branches made from a text, all that can be seen of an object. */
final class Check {
    static final int NONE = -1, UNKNOWN = -1000000001, OUTSIDE = -1000000002, NOT = -1000000003, FULL = -1000000004;
    /** The branch of most tests: needs 0, 20, -50, 100, 0; balances 30, -20, 110. */
    static final String HILL = "b500,520,450,600,500;c530 30 20;c480 50 60;c610 0 40;t3;t8;t17;t0;t31;";
    private static int wrong = 0;

    private Check() {
    }

    static void due(String call, long got, long want) {
        if (got != want) {
            wrong++;
            System.out.println(call + " answered " + got + ", due is " + want);
        }
    }

    static void feed(BodyAccounts x, String text) {
        for (int i = 0; i < text.length(); i++) {
            x.feed(text.charAt(i));
        }
    }

    static BodyAccounts of(String text) {
        BodyAccounts x = new BodyAccounts();
        feed(x, text);
        x.branch();
        return x;
    }

    /** A text's answer of branch() and fault(), on an object that has another branch already. */
    static void reads(String text, int answer, int fault) {
        BodyAccounts x = of(HILL);
        x.spend(0, 7);
        feed(x, text);
        List<Integer> before = seen(x);
        due("branch() of '" + text + "'", x.branch(), answer);
        due("fault() of '" + text + "'", x.fault(), fault);
        due("told(3) behind '" + text + "'", x.told(3), 0);
        if (answer < 0) {
            List<Integer> behind = seen(x);
            before.set(3, 0);
            before.set(14, fault);
            due("all else is as it was by '" + text + "'", behind.equals(before) ? 1 : 0, 1);
        }
    }

    /** All that can be asked of an object without changing it; 0 .. 13 are told(), 14 is fault(). */
    static List<Integer> seen(BodyAccounts x) {
        List<Integer> all = new ArrayList<>();
        for (int what = 0; what <= 13; what++) {
            all.add(x.told(what));
        }
        all.add(x.fault());
        int seed = x.seed(0);
        x.seed(seed);
        all.add(seed);
        for (int k = 0; k < 8; k++) {
            all.add(x.part(k));
        }
        for (int c = 0; c < 5; c++) {
            for (int k = 0; k < 6; k++) {
                all.add(x.customer(c, k));
                all.add(x.owes(c, k));
                all.add(x.can(c, k));
                all.add(x.plan(c, 4, k - 1));
            }
        }
        for (int what = 0; what < 3; what++) {
            all.add(x.has(what));
        }
        all.add(x.look());
        all.add(x.judge());
        return all;
    }

    static void end() {
        System.out.println(wrong == 0 ? "all answers are as due" : wrong + " answers are not as due");
        if (wrong != 0) {
            System.exit(1);
        }
    }
}
