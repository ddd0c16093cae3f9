/** 'What is refused changes nothing', and of several refusals the first: each call, on objects of which much is told. */
public final class RefusedTest {
    private static final int U = Check.UNKNOWN, O = Check.OUTSIDE, N = Check.NOT, F = Check.FULL;

    public static void main(String[] args) {
        withoutBranch();
        withoutCustomers();
        full();
        Desk desk = busy();
        theBranch(desk);
        done(desk);
        tried(desk);
        seen(desk);
        images(desk);
        Check.end();
    }

    /** All lists are full, one debt is at its most, something can be undone, image 1 is kept. */
    private static Desk busy() {
        Desk desk = Desk.of(Check.HILL);
        desk.call("seed 4");
        desk.call("month 7");
        desk.call("keep 1");
        desk.times(10, "lend 0 1 999");
        desk.call("lend 0 1 9");
        desk.call("drift 3");
        for (int k = 0; k < 5; k++) {
            desk.call("spending " + (k + 1));
        }
        for (int k = 0; k < 4; k++) {
            desk.call("must " + k + " " + k);
        }
        for (int k = 0; k < 8; k++) {
            desk.call("see " + k % 5 + " " + (k % 2 == 0));
        }
        for (int k = 0; k < 15; k++) {
            desk.call("write " + k % 3 + " " + (10000 + k));
        }
        desk.feed("b1,");
        return desk;
    }

    private static void withoutBranch() {
        Desk desk = new Desk();
        desk.call("spending 4");
        desk.call("seed 4");
        desk.call("keep 1");
        desk.feed("b1,");
        String[] unknown = {"part 0", "customer 0 0", "customer 0 5", "owes 0 1", "owes 0 0", "can 0 0", "spend 0 1", "spend 0 0", "lend 0 1 1",
            "lend 0 1 0", "payBack 0 1 1", "payBack 0 1 0", "hat 0", "able 0 0 1", "able 0 0 0", "must 0 0", "must 0 4", "plan 0 1 -1",
            "plan 0 0 -1", "asOne 0 -1", "loan 0 0 0", "loan 0 0 2", "see 0 true", "write 0 0", "write 0 -1", "keep 2", "goBack 2"};
        for (String call : unknown) {
            desk.refused(call, U);
        }
        for (String call : new String[] {"month 0", "drift 0", "told 14", "spending 0", "wage 0 101", "has 3", "seed -1", "feed 256"}) {
            desk.refused(call, O);
        }
        for (String call : new String[] {"month 1", "drift 1", "undo", "goBack 0"}) {
            desk.refused(call, N);
        }
    }

    private static void withoutCustomers() {
        Desk desk = Desk.of("b500;");
        desk.call("month 1");
        for (String call : new String[] {"customer 0 0", "owes 0 1", "can 0 0", "spend 0 1", "lend 0 1 1", "payBack 0 1 1", "hat 0", "able 0 0 1",
            "must 0 0", "plan 0 1 -1", "asOne 0 -1", "loan 0 0 0", "write 0 0", "part 1", "see 1 true"}) {
            desk.refused(call, U);
        }
    }

    /** The two that only many calls reach. */
    private static void full() {
        Desk text = Desk.of("b500;");
        text.call("month 1");
        text.times(240, "feed 32");
        text.refused("feed 256", O);
        text.refused("feed 32", F);
        Desk months = Desk.of("b500;c530 30 20;");
        months.times(151, "month 60");
        months.refused("month 61", O);
        months.refused("month 1", F);
    }

    private static void theBranch(Desk desk) {
        desk.refused("feed -1", O);
        desk.refused("feed 256", O);
        desk.refused("told -1", O);
        desk.refused("told 14", O);
        desk.refused("part -1", U);
        desk.refused("part 5", U);
        desk.refused("customer 3 0", U);
        desk.refused("customer 3 5", U);
        desk.refused("customer 2 5", O);
        desk.refused("owes 1 1", U);
        desk.refused("owes 0 3", U);
        desk.refused("can 3 0", U);
        desk.refused("can 0 5", U);
    }

    private static void done(Desk desk) {
        desk.refused("month 0", O);
        desk.refused("month 61", O);
        desk.refused("spend 3 1", U);
        desk.refused("spend 3 1000", U);
        desk.refused("spend 0 1000", O);
        desk.refused("lend 0 0 1", U);
        desk.refused("lend 0 3 1000", U);
        desk.refused("lend 3 1 1000", U);
        desk.refused("lend 0 1 1000", O);
        desk.refused("lend 0 1 0", O);
        desk.refused("lend 0 1 1", F);
        desk.refused("lend 0 1 999", F);
        desk.refused("payBack 1 1 1", U);
        desk.refused("payBack 3 0 1000", U);
        desk.refused("payBack 0 1 1000", O);
        desk.refused("payBack 1 0 0", O);
        desk.refused("payBack 0 1 999", N);
        desk.refused("payBack 2 0 1", N);
        desk.refused("drift 0", O);
        desk.refused("drift 61", O);
    }

    private static void tried(Desk desk) {
        desk.refused("hat 3", U);
        desk.refused("able 3 0 61", U);
        desk.refused("able 0 5 61", U);
        desk.refused("able 0 0 61", O);
        desk.refused("spending 1000", O);
        desk.refused("spending 0", O);
        desk.refused("spending 999", F);
        desk.refused("must 5 4", U);
        desk.refused("must 0 4", O);
        desk.refused("must 0 3", F);
        desk.refused("plan 3 5 0", U);
        desk.refused("plan 3 3 0", U);
        desk.refused("plan 0 5 0", O);
        desk.refused("plan 0 3 0", O);
        desk.refused("asOne 5 0", U);
        desk.refused("loan 3 0 2", U);
        desk.refused("loan 0 5 2", U);
        desk.refused("loan 0 0 2", O);
        desk.refused("wage 61 0", O);
        desk.refused("wage 0 101", O);
    }

    private static void seen(Desk desk) {
        desk.refused("see 5 true", U);
        desk.refused("see 0 true", F);
        desk.refused("has 3", O);
        desk.refused("write 3 20001", U);
        desk.refused("write 0 20001", O);
        desk.refused("write 0 20000", F);
    }

    private static void images(Desk desk) {
        desk.refused("seed -1", O);
        desk.refused("keep 2", U);
        desk.refused("keep -1", U);
        desk.refused("goBack 2", U);
        desk.refused("goBack -1", U);
        desk.refused("goBack 0", N);
    }
}
