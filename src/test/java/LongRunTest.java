/** 'An object is used for at most 512 calls': what many calls alone reach, all on one object, up to its last call. */
public final class LongRunTest {
    private static final String TEXT = "b500,600;c999 99 0;c0 0 99;c500 1 1;t1;t2;t3;";
    private static int calls = 0;

    public static void main(String[] args) {
        BodyAccounts x = new BodyAccounts();
        text(x);
        months(x);
        debts(x);
        past(x);
        lists(x);
        toTheLast(x);
        Check.end();
    }

    private static void due(String call, int got, int want) {
        calls++;
        Check.due(call + " (call " + calls + ")", got, want);
    }

    private static void text(BodyAccounts x) {
        String longest = TEXT + " ".repeat(240 - TEXT.length());
        for (int k = 0; k < 240; k++) {
            due("feed", x.feed(longest.charAt(k)), k + 1);
        }
        due("feed at 240", x.feed('x'), Check.FULL);
        due("branch", x.branch(), 3);
    }

    private static void months(BodyAccounts x) {
        for (int k = 1; k <= 150; k++) {
            due("month", x.month(60), 60 * k);
        }
        due("month at 9000", x.month(60), 9060);
        due("month at 9060", x.month(1), Check.FULL);
        due("the greatest", x.customer(0, 0), 19999);
        due("the least", x.customer(1, 0), 1);
        due("the same", x.customer(2, 0), 10000);
        due("to undo", x.told(13), 20);
    }

    private static void debts(BodyAccounts x) {
        for (int k = 1; k <= 10; k++) {
            due("lend", x.lend(0, 1, 999), 0);
        }
        due("lend at 9990", x.lend(0, 1, 10), Check.FULL);
        due("lend to 9999", x.lend(0, 1, 9), 1);
        due("lend at 9999", x.lend(0, 1, 1), Check.FULL);
        due("lender", x.customer(0, 0), 10000);
        due("borrower", x.customer(1, 0), 10000);
        due("owes", x.owes(1, 0), 109999);
        due("ALL PAID", x.told(8), 1);
        due("to undo", x.told(13), 20);
    }

    /** Eleven loans and nine times sixty months are kept; what was ahead of them is lost. */
    private static void past(BodyAccounts x) {
        for (int k = 19; k >= 0; k--) {
            due("undo", x.undo(), k);
        }
        due("undo of none", x.undo(), Check.NOT);
        due("months", x.told(4), 9060 - 540);
        due("owes", x.owes(1, 0), 100000);
        due("the greatest", x.customer(0, 0), 19999);
        due("month", x.month(1), 8521);
    }

    private static void lists(BodyAccounts x) {
        for (int k = 1; k <= 16; k++) {
            due("spending", x.spending(999), k <= 5 ? k : Check.FULL);
            if (k <= 5) {
                due("must", x.must(2, k % 4), k <= 4 ? k : Check.FULL);
            }
            if (k <= 9) {
                due("see", x.see(k % 2, true), k <= 8 ? k : Check.FULL);
            }
            due("write", x.write(0, 19999), k <= 15 ? k : Check.FULL);
        }
        due("plan", x.plan(0, 4, 4), 0);
        due("has", x.has(0), 400);
        due("judge", x.judge(), Check.NONE);
        due("tear", x.tear(), 32);
    }

    private static void toTheLast(BodyAccounts x) {
        due("keep", x.keep(1), 1);
        while (calls < 510) {
            due("spend of the least", x.spend(1, 999), 0);
        }
        due("goBack", x.goBack(1), 1);
        due("the last call", x.told(4), 8521);
        Check.due("calls", calls, 512);
    }
}
