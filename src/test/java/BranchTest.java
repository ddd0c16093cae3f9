/** Promises 5 to 9: told, part, customer, owes, can. */
public final class BranchTest {
    public static void main(String[] args) {
        telling();
        partsAndCustomers();
        debts();
        hatsAndWholes();
        doing();
        Check.end();
    }

    private static void telling() {
        BodyAccounts x = Check.of(Check.HILL);
        Check.feed(x, "b 1");
        x.month(3);
        x.spend(0, 1);
        x.spending(1);
        x.spending(2);
        x.must(0, 0);
        x.see(0, true);
        x.see(1, true);
        x.see(2, true);
        x.write(0, 0);
        int[] want = {5, 3, 5, 3, 3, 0, 0, 0, 0, 2, 1, 3, 1, 2};
        for (int what = 0; what < want.length; what++) {
            if (what < 5 || what > 8) {
                Check.due("told(" + what + ")", x.told(what), want[what]);
            }
        }
        Check.due("told(-1)", x.told(-1), Check.OUTSIDE);
        Check.due("told(14)", x.told(14), Check.OUTSIDE);
    }

    private static void partsAndCustomers() {
        BodyAccounts x = Check.of("b0,999,500;c0 99 1;c999 0 98;");
        Check.due("part(0)", x.part(0), 0);
        Check.due("part(1)", x.part(1), 999);
        Check.due("part(2)", x.part(2), 500);
        Check.due("part(3)", x.part(3), Check.UNKNOWN);
        Check.due("part(-1)", x.part(-1), Check.UNKNOWN);
        Check.due("customer(0, 0)", x.customer(0, 0), 9500);
        Check.due("customer(0, 1)", x.customer(0, 1), 1);
        Check.due("customer(0, 2)", x.customer(0, 2), 99);
        Check.due("customer(0, 3)", x.customer(0, 3), 1);
        Check.due("customer(0, 4)", x.customer(0, 4), 100000);
        Check.due("customer(1, 0)", x.customer(1, 0), 10499);
        Check.due("customer(1, 1)", x.customer(1, 1), 7);
        Check.due("customer(1, 2)", x.customer(1, 2), 0);
        Check.due("customer(1, 3)", x.customer(1, 3), 98);
        Check.due("customer(2, 0)", x.customer(2, 0), Check.UNKNOWN);
        Check.due("customer(-1, 9)", x.customer(-1, 9), Check.UNKNOWN);
        Check.due("customer(0, 5)", x.customer(0, 5), Check.OUTSIDE);
        Check.due("customer(0, -1)", x.customer(0, -1), Check.OUTSIDE);
    }

    private static void debts() {
        BodyAccounts x = Check.of(Check.HILL);
        x.lend(0, 1, 10);
        x.lend(2, 1, 5);
        x.lend(1, 2, 7);
        Check.due("owes(1, 0)", x.owes(1, 0), 100010);
        Check.due("owes(0, 1)", x.owes(0, 1), 99990);
        Check.due("owes(1, 2)", x.owes(1, 2), 99998);
        Check.due("owes(2, 1)", x.owes(2, 1), 100002);
        Check.due("owes(2, 2)", x.owes(2, 2), Check.UNKNOWN);
        Check.due("owes(0, 3)", x.owes(0, 3), Check.UNKNOWN);
        Check.due("owes(3, 0)", x.owes(3, 0), Check.UNKNOWN);
        Check.due("owes(-1, 0)", x.owes(-1, 0), Check.UNKNOWN);
        Check.due("NET of 0", x.customer(0, 4), 100010);
        Check.due("NET of 1", x.customer(1, 4), 99992);
        Check.due("NET of 2", x.customer(2, 4), 99998);
        Check.due("CLEARED", x.told(7), 2);
    }

    private static void hatsAndWholes() {
        BodyAccounts x = Check.of("b500,600;c499 0 0;c500 0 0;c599 0 0;c600 0 0;c700 0 0;");
        Check.due("HATS", x.told(5), 1);
        Check.due("WHOLE", x.told(6), 24);
        Check.due("ALL PAID without debts", x.told(8), 24);
        x.lend(4, 2, 150);
        Check.due("WHOLE, lent", x.told(6), 12);
        Check.due("ALL PAID, lent", x.told(8), 24);
        x.lend(2, 0, 101);
        Check.due("WHOLE, lent on", x.told(6), 13);
        Check.due("ALL PAID, lent on", x.told(8), 24);
    }

    private static void doing() {
        BodyAccounts x = Check.of("b500,600;c500 0 0;c600 0 0;c0 0 0;t1;t2;t3;t0;");
        int[][] want = {{1, 0, 0, 1}, {1, 1, 1, 1}, {0, 0, 0, 1}};
        for (int c = 0; c < 3; c++) {
            for (int t = 0; t < 4; t++) {
                Check.due("can(" + c + ", " + t + ")", x.can(c, t), want[c][t]);
            }
        }
        Check.due("can(3, 0)", x.can(3, 0), Check.UNKNOWN);
        Check.due("can(0, 4)", x.can(0, 4), Check.UNKNOWN);
        Check.due("can(0, -1)", x.can(0, -1), Check.UNKNOWN);
    }
}
