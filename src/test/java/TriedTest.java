/** Promises 16 to 24: hat, able, spending, must, plan, asOne, loan, order, wage. */
public final class TriedTest {
    public static void main(String[] args) {
        hats();
        ables();
        tellings();
        plans();
        refusedPlans();
        asOnes();
        loans();
        orders();
        wages();
        Check.end();
    }

    private static void hats() {
        BodyAccounts x = Check.of("b500,600;c499 0 0;c700 1 2;c701 1 2;c500 1 1;c999 0 99;");
        int[] want = {0, Check.NONE, Check.NONE, Check.NONE, 6};
        for (int c = 0; c < 5; c++) {
            Check.due("hat(" + c + ")", x.hat(c), want[c]);
        }
        Check.due("hat(5)", x.hat(5), Check.UNKNOWN);
        Check.due("hat(-1)", x.hat(-1), Check.UNKNOWN);
        x.month(1);
        Check.due("hat(1) a month on", x.hat(1), 200);
        Check.due("hat(2) a month on", x.hat(2), Check.NONE);
        Check.due("nothing changes by it", x.told(4), 1);
    }

    private static void ables() {
        BodyAccounts x = Check.of("b500,520;c500 10 0;c530 0 10;t2;t0;");
        Check.due("able(0, 0, 1)", x.able(0, 0, 1), 0);
        Check.due("able(0, 0, 2)", x.able(0, 0, 2), 0);
        Check.due("able(0, 0, 3)", x.able(0, 0, 3), 1);
        Check.due("able(0, 0, 60)", x.able(0, 0, 60), 58);
        Check.due("able(1, 0, 60)", x.able(1, 0, 60), 2);
        Check.due("able(1, 1, 60)", x.able(1, 1, 60), 60);
        Check.due("able(2, 0, 0)", x.able(2, 0, 0), Check.UNKNOWN);
        Check.due("able(0, 2, 0)", x.able(0, 2, 0), Check.UNKNOWN);
        Check.due("able(0, 0, 0)", x.able(0, 0, 0), Check.OUTSIDE);
        Check.due("able(0, 0, 61)", x.able(0, 0, 61), Check.OUTSIDE);
    }

    private static void tellings() {
        BodyAccounts x = Check.of(Check.HILL);
        Check.due("spending(0)", x.spending(0), Check.OUTSIDE);
        Check.due("spending(1000)", x.spending(1000), Check.OUTSIDE);
        for (int k = 1; k <= 5; k++) {
            Check.due("spending(999)", x.spending(999), k);
        }
        Check.due("spending(1), a sixth", x.spending(1), Check.FULL);
        Check.due("spending(0), a sixth", x.spending(0), Check.OUTSIDE);
        Check.due("must(5, 4)", x.must(5, 4), Check.UNKNOWN);
        Check.due("must(-1, 0)", x.must(-1, 0), Check.UNKNOWN);
        Check.due("must(0, 4)", x.must(0, 4), Check.OUTSIDE);
        Check.due("must(0, -1)", x.must(0, -1), Check.OUTSIDE);
        for (int k = 1; k <= 4; k++) {
            Check.due("must(4, 3)", x.must(4, 3), k);
        }
        Check.due("must(0, 0), a fifth", x.must(0, 0), Check.FULL);
        Check.due("must(0, 4), a fifth", x.must(0, 4), Check.OUTSIDE);
        Check.due("must(5, 0), a fifth", x.must(5, 0), Check.UNKNOWN);
    }

    private static void plans() {
        BodyAccounts x = Check.of("b500,540;c530 20 10;t1;t2;");
        Check.due("nothing told", x.plan(0, 1, -1), 1);
        Check.due("no spending 0", x.plan(0, 1, 0), Check.NONE);
        x.spending(30);
        x.spending(20);
        x.spending(10);
        x.must(0, 0);
        x.must(0, 2);
        // Balances 30, 40, 50, 60: month 0 and 2 leave 0 or more.
        wayIs(x, 4, new int[] {0, 1, 3});
        wayIs(x, 3, null);
        x.must(1, 1);
        // Month 1 leaves 40: nothing ahead of it.
        wayIs(x, 4, new int[] {2, 2, 3});
        x.must(1, 2);
        wayIs(x, 4, new int[] {3, 3, 2});
        Check.due("nothing is spent", x.customer(0, 0), 10030);
        x.tear();
        x.spending(31);
        wayIs(x, 2, new int[] {0});
        x.must(0, 0);
        wayIs(x, 2, new int[] {1});
        x.tear();
        x.must(1, 0);
        Check.due("no spending helps a task undone", x.plan(0, 4, -1), 0);
    }

    private static void wayIs(BodyAccounts x, int n, int[] months) {
        Check.due("plan(0, " + n + ", -1)", x.plan(0, n, -1), months == null ? 0 : 1);
        for (int i = 0; i < x.told(9); i++) {
            Check.due("plan(0, " + n + ", " + i + ")", x.plan(0, n, i), months == null ? Check.NONE : months[i]);
        }
        Check.due("plan(0, " + n + ", -2)", x.plan(0, n, -2), Check.NONE);
        Check.due("plan of one too many", x.plan(0, n, x.told(9)), Check.NONE);
    }

    private static void refusedPlans() {
        BodyAccounts x = Check.of(Check.HILL);
        Check.due("plan(3, 0, 0)", x.plan(3, 0, 0), Check.UNKNOWN);
        Check.due("plan(-1, 1, 0)", x.plan(-1, 1, 0), Check.UNKNOWN);
        Check.due("plan(0, 0, -1)", x.plan(0, 0, -1), Check.OUTSIDE);
        Check.due("plan(0, 5, -1)", x.plan(0, 5, -1), Check.OUTSIDE);
        x.must(3, 2);
        x.must(3, 0);
        Check.due("plan(0, 2, -1)", x.plan(0, 2, -1), Check.OUTSIDE);
        Check.due("plan(0, 3, -1)", x.plan(0, 3, -1), 1);
    }

    private static void asOnes() {
        BodyAccounts x = Check.of("b600,0;c550 0 0;c549 0 0;c600 0 0;c560 0 0;c499 0 0;t1;t2;t0;");
        Check.due("asOne(0, -1)", x.asOne(0, -1), 2);
        Check.due("asOne(0, 0)", x.asOne(0, 0), 3);
        Check.due("asOne(0, 1)", x.asOne(0, 1), 13);
        Check.due("asOne(0, 2)", x.asOne(0, 2), Check.NONE);
        Check.due("asOne(0, -2)", x.asOne(0, -2), Check.NONE);
        Check.due("asOne(1, -1)", x.asOne(1, -1), 0);
        Check.due("asOne(2, -1)", x.asOne(2, -1), 0);
        Check.due("asOne(3, -1)", x.asOne(3, -1), Check.UNKNOWN);
        Check.due("asOne(-1, 0)", x.asOne(-1, 0), Check.UNKNOWN);
    }

    private static void loans() {
        BodyAccounts x = Check.of("b500,600,0;c530 0 0;c600 99 0;c0 0 99;t1;t3;t0;t4;");
        Check.due("loan(0, 0, 0)", x.loan(0, 0, 0), 0);
        Check.due("loan(0, 0, 1)", x.loan(0, 0, 1), 30);
        Check.due("loan(0, 1, 0)", x.loan(0, 1, 0), 70);
        Check.due("loan(0, 1, 1)", x.loan(0, 1, 1), Check.NONE);
        Check.due("loan(1, 1, 0)", x.loan(1, 1, 0), 0);
        Check.due("loan(1, 1, 1)", x.loan(1, 1, 1), 0);
        Check.due("loan(2, 2, 0)", x.loan(2, 2, 0), 0);
        Check.due("loan(2, 2, 1)", x.loan(2, 2, 1), 9999);
        x.month(60);
        x.month(60);
        Check.due("loan(1, 0, 1) of the greatest", x.loan(1, 0, 1), 9999);
        Check.due("loan(1, 1, 1) of the greatest", x.loan(1, 1, 1), 9899);
        Check.due("loan(1, 3, 1) of the greatest", x.loan(1, 3, 1), 9999);
        Check.due("loan(2, 0, 0) of the least", x.loan(2, 0, 0), 9999);
        Check.due("loan(2, 1, 0) of the least", x.loan(2, 1, 0), Check.NONE);
        Check.due("loan(2, 3, 0) of the least", x.loan(2, 3, 0), 9499);
        Check.due("loan(2, 2, 1) of the least", x.loan(2, 2, 1), 9999);
        Check.due("loan(3, 0, 2)", x.loan(3, 0, 2), Check.UNKNOWN);
        Check.due("loan(0, 4, 2)", x.loan(0, 4, 2), Check.UNKNOWN);
        Check.due("loan(0, 0, 2)", x.loan(0, 0, 2), Check.OUTSIDE);
        Check.due("loan(0, 0, -1)", x.loan(0, 0, -1), Check.OUTSIDE);
    }

    private static void orders() {
        BodyAccounts x = Check.of("b0,999,0,998,500,1,999,2;");
        int[] want = {1, 6, 3, 4, 7, 5, 0, 2};
        for (int i = 0; i < 8; i++) {
            Check.due("order(" + i + ")", x.order(i), want[i]);
        }
        Check.due("order(8)", x.order(8), Check.NONE);
        Check.due("order(-1)", x.order(-1), Check.NONE);
    }

    private static void wages() {
        BodyAccounts x = new BodyAccounts();
        Check.due("wage(0, 100)", x.wage(0, 100), 1000000000);
        Check.due("wage(1, 100)", x.wage(1, 100), 0);
        Check.due("wage(60, 0)", x.wage(60, 0), 1000000000);
        Check.due("wage(1, 1)", x.wage(1, 1), 990000000);
        // 33 of a hundred, five times: 330000000, 108900000, 35937000, 11859210, 3913539 (.3 is cut).
        Check.due("wage(5, 67)", x.wage(5, 67), 3913539);
        Check.due("wage(60, 90)", x.wage(60, 90), 0);
        Check.due("wage(-1, 0)", x.wage(-1, 0), Check.OUTSIDE);
        Check.due("wage(61, 0)", x.wage(61, 0), Check.OUTSIDE);
        Check.due("wage(1, -1)", x.wage(1, -1), Check.OUTSIDE);
        Check.due("wage(1, 101)", x.wage(1, 101), Check.OUTSIDE);
    }
}
