import java.util.List;

/** What is refused changes nothing: each refusal of each call, on an object where nearly all is full. */
public final class RefusedTest {
    private static BodyAccounts x;
    private static List<Integer> before;

    public static void main(String[] args) {
        x = Check.of(Check.HILL);
        fill();
        before = Check.seen(x);
        theBranch();
        done();
        tried();
        seen();
        images();
        Check.end();
    }

    private static void fill() {
        x.seed(4);
        Check.feed(x, "b1;".repeat(80));
        for (int k = 0; k < 151; k++) {
            x.month(60);
        }
        for (int k = 0; k < 11; k++) {
            x.lend(0, 1, k == 10 ? 9 : 999);
        }
        for (int k = 0; k < 15; k++) {
            x.spending(k + 1);
            x.must(k % 5, k % 4);
            x.see(k % 5, k % 3 == 0);
            x.write(k % 3, 10000 + k);
        }
    }

    private static void refused(String call, int got, int want) {
        Check.due(call, got, want);
        Check.due("nothing changes by " + call, Check.seen(x).equals(before) ? 1 : 0, 1);
    }

    private static void theBranch() {
        refused("feed(256)", x.feed(256), Check.OUTSIDE);
        refused("feed(-1)", x.feed(-1), Check.OUTSIDE);
        refused("feed(98)", x.feed(98), Check.FULL);
        refused("told(14)", x.told(14), Check.OUTSIDE);
        refused("part(5)", x.part(5), Check.UNKNOWN);
        refused("customer(3, 5)", x.customer(3, 5), Check.UNKNOWN);
        refused("customer(2, 5)", x.customer(2, 5), Check.OUTSIDE);
        refused("owes(1, 1)", x.owes(1, 1), Check.UNKNOWN);
        refused("can(0, 5)", x.can(0, 5), Check.UNKNOWN);
    }

    private static void done() {
        refused("month(61)", x.month(61), Check.OUTSIDE);
        refused("month(60)", x.month(60), Check.FULL);
        refused("spend(3, 1000)", x.spend(3, 1000), Check.UNKNOWN);
        refused("spend(0, 1000)", x.spend(0, 1000), Check.OUTSIDE);
        refused("lend(0, 0, 1000)", x.lend(0, 0, 1000), Check.UNKNOWN);
        refused("lend(0, 1, 1000)", x.lend(0, 1, 1000), Check.OUTSIDE);
        refused("lend(0, 1, 1)", x.lend(0, 1, 1), Check.FULL);
        refused("payBack(1, 1, 1000)", x.payBack(1, 1, 1000), Check.UNKNOWN);
        refused("payBack(0, 1, 1000)", x.payBack(0, 1, 1000), Check.OUTSIDE);
        refused("payBack(0, 1, 999)", x.payBack(0, 1, 999), Check.NOT);
        refused("drift(0)", x.drift(0), Check.OUTSIDE);
    }

    private static void tried() {
        refused("hat(3)", x.hat(3), Check.UNKNOWN);
        refused("able(3, 0, 61)", x.able(3, 0, 61), Check.UNKNOWN);
        refused("able(0, 5, 61)", x.able(0, 5, 61), Check.UNKNOWN);
        refused("able(0, 0, 61)", x.able(0, 0, 61), Check.OUTSIDE);
        refused("spending(1000)", x.spending(1000), Check.OUTSIDE);
        refused("spending(999)", x.spending(999), Check.FULL);
        refused("must(5, 4)", x.must(5, 4), Check.UNKNOWN);
        refused("must(0, 4)", x.must(0, 4), Check.OUTSIDE);
        refused("must(0, 3)", x.must(0, 3), Check.FULL);
        refused("plan(3, 5, 0)", x.plan(3, 5, 0), Check.UNKNOWN);
        refused("plan(0, 5, 0)", x.plan(0, 5, 0), Check.OUTSIDE);
        refused("plan(0, 3, 0)", x.plan(0, 3, 0), Check.OUTSIDE);
        refused("asOne(5, 0)", x.asOne(5, 0), Check.UNKNOWN);
        refused("loan(0, 5, 2)", x.loan(0, 5, 2), Check.UNKNOWN);
        refused("loan(0, 0, 2)", x.loan(0, 0, 2), Check.OUTSIDE);
        refused("wage(61, 0)", x.wage(61, 0), Check.OUTSIDE);
    }

    private static void seen() {
        refused("see(5, true)", x.see(5, true), Check.UNKNOWN);
        refused("see(0, true)", x.see(0, true), Check.FULL);
        refused("has(3)", x.has(3), Check.OUTSIDE);
        refused("write(3, 20001)", x.write(3, 20001), Check.UNKNOWN);
        refused("write(0, 20001)", x.write(0, 20001), Check.OUTSIDE);
        refused("write(0, 20000)", x.write(0, 20000), Check.FULL);
    }

    private static void images() {
        refused("seed(-1)", x.seed(-1), Check.OUTSIDE);
        refused("keep(2)", x.keep(2), Check.UNKNOWN);
        refused("goBack(2)", x.goBack(2), Check.UNKNOWN);
        refused("goBack(0)", x.goBack(0), Check.NOT);
    }
}
