/** Promises 10 to 15: month, spend, lend, payBack, drift, undo. */
public final class DoneTest {
    public static void main(String[] args) {
        months();
        monthsWithoutCustomers();
        boundsOfBalances();
        spending();
        lending();
        payingBack();
        drifting();
        undoing();
        Check.end();
    }

    private static void months() {
        BodyAccounts x = Check.of(Check.HILL);
        Check.due("month(0)", x.month(0), Check.OUTSIDE);
        Check.due("month(61)", x.month(61), Check.OUTSIDE);
        Check.due("month(3)", x.month(3), 3);
        Check.due("balance 0", x.customer(0, 0), 10060);
        Check.due("balance 1", x.customer(1, 0), 9950);
        Check.due("balance 2", x.customer(2, 0), 9990);
        for (int k = 0; k < 149; k++) {
            x.month(60);
        }
        Check.due("month(57)", x.month(57), 9000);
        Check.due("month(60) at 9000", x.month(60), 9060);
        Check.due("month(1) at 9060", x.month(1), Check.FULL);
        Check.due("month(61) at 9060", x.month(61), Check.OUTSIDE);
        x.undo();
        Check.due("month(1) at 9000", x.month(1), 9001);
        Check.due("month(1) at 9001", x.month(1), Check.FULL);
        Check.due("months", x.told(4), 9001);
        BodyAccounts none = new BodyAccounts();
        Check.due("no branch: month(0)", none.month(0), Check.OUTSIDE);
        Check.due("no branch: month(1)", none.month(1), Check.NOT);
    }

    private static void monthsWithoutCustomers() {
        BodyAccounts x = Check.of("b5;");
        Check.due("month(2) of nobody", x.month(2), 2);
        x.seed(9);
        Check.due("drift(2) of nobody", x.drift(2), 0);
        Check.due("no draw of nobody", x.seed(9), 9);
        Check.due("both can be undone", x.told(13), 2);
    }

    private static void boundsOfBalances() {
        BodyAccounts x = Check.of("b500;c999 99 0;c0 0 99;c999 99 30;c0 10 99;");
        x.month(60);
        x.month(60);
        Check.due("greatest", x.customer(0, 0), 19999);
        Check.due("least", x.customer(1, 0), 1);
        x.month(60);
        Check.due("paid to the bound, then less", x.customer(2, 0), 19969);
        x.spend(1, 999);
        Check.due("least again", x.customer(1, 0), 1);
        Check.due("lend(1, 0, 5) by the least to the greatest", x.lend(1, 0, 5), 1);
        Check.due("least that lends", x.customer(1, 0), 1);
        Check.due("greatest that borrows", x.customer(0, 0), 19999);
        Check.due("owes(0, 1)", x.owes(0, 1), 100005);
    }

    private static void spending() {
        BodyAccounts x = Check.of(Check.HILL);
        Check.due("spend(3, 0)", x.spend(3, 0), Check.UNKNOWN);
        Check.due("spend(-1, 1)", x.spend(-1, 1), Check.UNKNOWN);
        Check.due("spend(0, 0)", x.spend(0, 0), Check.OUTSIDE);
        Check.due("spend(0, 1000)", x.spend(0, 1000), Check.OUTSIDE);
        Check.due("spend(0, 10)", x.spend(0, 10), 23);
        Check.due("spend(0, 1)", x.spend(0, 1), 21);
        Check.due("spend(0, 20)", x.spend(0, 20), 4);
        Check.due("spend(0, 999)", x.spend(0, 999), 0);
        Check.due("balance", x.customer(0, 0), 9000);
        Check.due("another's balance", x.customer(1, 0), 9980);
    }

    private static void lending() {
        BodyAccounts x = Check.of(Check.HILL);
        Check.due("lend(0, 0, 0)", x.lend(0, 0, 0), Check.UNKNOWN);
        Check.due("lend(0, 3, 1)", x.lend(0, 3, 1), Check.UNKNOWN);
        Check.due("lend(-1, 0, 1)", x.lend(-1, 0, 1), Check.UNKNOWN);
        Check.due("lend(0, 1, 0)", x.lend(0, 1, 0), Check.OUTSIDE);
        Check.due("lend(0, 1, 1000)", x.lend(0, 1, 1000), Check.OUTSIDE);
        Check.due("lend(2, 1, 20)", x.lend(2, 1, 20), 21);
        Check.due("lender", x.customer(2, 0), 10090);
        Check.due("borrower", x.customer(1, 0), 10000);
        for (int k = 0; k < 9; k++) {
            x.lend(2, 1, 999);
        }
        Check.due("owed", x.owes(1, 2), 109011);
        Check.due("lend(2, 1, 989)", x.lend(2, 1, 989), Check.FULL);
        Check.due("lend(2, 1, 1000)", x.lend(2, 1, 1000), Check.OUTSIDE);
        Check.due("lend(2, 1, 988)", x.lend(2, 1, 988), 31);
        Check.due("owed most", x.owes(1, 2), 109999);
        Check.due("lend(2, 1, 1)", x.lend(2, 1, 1), Check.FULL);
        Check.due("lend(1, 2, 1) the other way", x.lend(1, 2, 1), 0);
        Check.due("owed less", x.owes(1, 2), 109998);
    }

    private static void payingBack() {
        BodyAccounts x = Check.of(Check.HILL);
        x.lend(0, 1, 30);
        Check.due("payBack(1, 1, 0)", x.payBack(1, 1, 0), Check.UNKNOWN);
        Check.due("payBack(1, 3, 1)", x.payBack(1, 3, 1), Check.UNKNOWN);
        Check.due("payBack(1, 0, 0)", x.payBack(1, 0, 0), Check.OUTSIDE);
        Check.due("payBack(1, 0, 1000)", x.payBack(1, 0, 1000), Check.OUTSIDE);
        Check.due("payBack(1, 0, 31)", x.payBack(1, 0, 31), Check.NOT);
        Check.due("payBack(0, 1, 1)", x.payBack(0, 1, 1), Check.NOT);
        Check.due("payBack(1, 2, 1)", x.payBack(1, 2, 1), Check.NOT);
        Check.due("payBack(1, 0, 10)", x.payBack(1, 0, 10), 20);
        Check.due("payer", x.customer(1, 0), 10000);
        Check.due("paid", x.customer(0, 0), 10010);
        Check.due("payBack(1, 0, 20)", x.payBack(1, 0, 20), 0);
        Check.due("owes(0, 1)", x.owes(0, 1), 100000);
        Check.due("payBack(1, 0, 1)", x.payBack(1, 0, 1), Check.NOT);
    }

    private static void drifting() {
        BodyAccounts x = Check.of(Check.HILL);
        Check.due("drift(0)", x.drift(0), Check.OUTSIDE);
        Check.due("drift(61)", x.drift(61), Check.OUTSIDE);
        BodyAccounts none = new BodyAccounts();
        Check.due("no branch: drift(61)", none.drift(61), Check.OUTSIDE);
        Check.due("no branch: drift(60)", none.drift(60), Check.NOT);
        // From 0 the seed becomes 12345, 1406932606, 654583775: draws of 0, 21468, 9988.
        Check.due("drift(1)", x.drift(1), 0);
        Check.due("stake 68, on 0 less", x.customer(0, 0), 9962);
        Check.due("the seed behind three draws", x.seed(1), 654583775);
        Check.due("drift(60)", x.drift(60), x.told(5));
    }

    private static void undoing() {
        BodyAccounts x = Check.of(Check.HILL);
        Check.due("undo() of nothing", x.undo(), Check.NOT);
        x.spend(9, 1);
        x.month(0);
        x.lend(0, 0, 1);
        Check.due("refused calls can't be undone", x.undo(), Check.NOT);
        x.month(2);
        x.lend(0, 1, 9);
        x.payBack(1, 0, 4);
        x.drift(3);
        int seed = x.seed(0);
        x.seed(seed);
        Check.due("undo() of drift", x.undo(), 3);
        Check.due("the seed stays", x.seed(seed), seed);
        Check.due("undo() of payBack", x.undo(), 2);
        Check.due("owes(1, 0)", x.owes(1, 0), 100009);
        Check.due("undo() of lend", x.undo(), 1);
        Check.due("owes(1, 0) ahead", x.owes(1, 0), 100000);
        Check.due("balance ahead", x.customer(0, 0), 10050);
        Check.due("undo() of month", x.undo(), 0);
        Check.due("months", x.told(4), 0);
        Check.due("balance at first", x.customer(0, 0), 10030);
        for (int k = 1; k <= 25; k++) {
            x.spend(0, 1);
            Check.due("to undo", x.told(13), Math.min(k, 20));
        }
        for (int k = 19; k >= 0; k--) {
            Check.due("undo() of 20", x.undo(), k);
        }
        Check.due("undo() of the oldest", x.undo(), Check.NOT);
        Check.due("five are lost", x.customer(0, 0), 10025);
    }
}
