/** What is so, at its bounds: 'Terms', 2, and promises 5 to 9. Above each test stands the sentence that it holds. */
public final class BranchEdgesTest {
    public static void main(String[] args) {
        toldBounds();
        toldCounts();
        partBounds();
        customerBounds();
        thereAtItsNeed();
        canAll();
        hatOrWhole();
        farBelowAndAbove();
        owesBounds();
        netBounds();
        clearedBelowNothing();
        allPaidAtItsNeed();
        allPaidBeyondBounds();
        canBounds();
        Check.end();
    }

    // promise 5: '0 PARTS, .. 13 how many can be undone. OUTSIDE.'
    private static void toldBounds() {
        for (Desk desk : new Desk[] {new Desk(), Desk.of(Check.HILL)}) {
            desk.refused("told -1", Check.OUTSIDE);
            desk.refused("told 14", Check.OUTSIDE);
            desk.refused("told " + Integer.MIN_VALUE, Check.OUTSIDE);
            desk.refused("told " + Integer.MAX_VALUE, Check.OUTSIDE);
            desk.due("told 13", 0);
        }
    }

    // promise 5, each count from nothing to its most
    private static void toldCounts() {
        Desk desk = Desk.of("b500,500,500,500,500,500,500,500;c500 0 0;c500 0 0;c500 0 0;c500 0 0;c500 0 0;t0;t1;t2;t3;t4;t5;");
        desk.row("told", 0, 8, 5, 6, 0, 0, 0, 31, 0, 31, 0, 0, 0, 0, 0);
        desk.feed("b1;");
        desk.times(16, "spending 1");
        desk.times(16, "must 0 0");
        desk.times(16, "see 0 true");
        desk.times(16, "write 0 0");
        desk.times(21, "month 3");
        for (int c = 0; c < 5; c++) {
            desk.call("spend " + c + " 1");
        }
        desk.row("told", 0, 8, 5, 6, 3, 63, 31, 0, 0, 0, 5, 4, 8, 15, 20);
    }

    // promise 6: 'T of a PART. UNKNOWN.'
    private static void partBounds() {
        new Desk().refused("part 0", Check.UNKNOWN);
        for (int parts = 1; parts <= 8; parts++) {
            Desk desk = Desk.of("b3" + ",4".repeat(parts - 1) + ";");
            desk.due("part 0", 3);
            desk.due("part " + (parts - 1), parts == 1 ? 3 : 4);
            desk.refused("part " + parts, Check.UNKNOWN);
            desk.refused("part -1", Check.UNKNOWN);
        }
        Desk desk = Desk.of("b1;");
        desk.refused("part " + Integer.MIN_VALUE, Check.UNKNOWN);
        desk.refused("part " + Integer.MAX_VALUE, Check.UNKNOWN);
        // A shorter BRANCH has no PARTS of the one ahead of it.
        desk.tell("b1,2,3;c0 0 0;t0;");
        desk.tell("b4;");
        desk.row("part", 0, 4, Check.UNKNOWN, Check.UNKNOWN);
        desk.due("customer 0 0", Check.UNKNOWN);
    }

    // promise 7: 'what = 0 .. 4 .. UNKNOWN, OUTSIDE.'
    private static void customerBounds() {
        new Desk().refused("customer 0 0", Check.UNKNOWN);
        new Desk().refused("customer 0 5", Check.UNKNOWN);
        for (int customers = 0; customers <= 5; customers++) {
            Desk desk = Desk.of("b500;" + "c500 1 2;".repeat(customers));
            for (int c = 0; c < customers; c++) {
                desk.row("customer " + c, 0, 10000, 1, 1, 2, 100000);
                desk.refused("customer " + c + " 5", Check.OUTSIDE);
                desk.refused("customer " + c + " -1", Check.OUTSIDE);
            }
            desk.refused("customer " + customers + " 0", Check.UNKNOWN);
            desk.refused("customer " + customers + " 5", Check.UNKNOWN);
            desk.refused("customer -1 0", Check.UNKNOWN);
            desk.refused("customer -1 -1", Check.UNKNOWN);
        }
        Desk desk = Desk.of("b500;c500 1 2;");
        desk.refused("customer 0 " + Integer.MAX_VALUE, Check.OUTSIDE);
        desk.refused("customer 0 " + Integer.MIN_VALUE, Check.OUTSIDE);
        desk.refused("customer " + Integer.MAX_VALUE + " 0", Check.UNKNOWN);
        desk.refused("customer " + Integer.MIN_VALUE + " 0", Check.UNKNOWN);
    }

    // 'THERE are PARTS of a CUSTOMER whose T less 500 is no more than his BALANCE.'
    private static void thereAtItsNeed() {
        for (int need : new int[] {0, 1, 499, 500, 501, 998, 999}) {
            Desk desk = Desk.of("b" + need + ";c" + need + " 0 0;t1;");
            desk.due("customer 0 1", 1);
            desk.due("can 0 0", 1);
            desk.row("told", 5, 0, 1);
            desk.due("spend 0 1", 0);
            desk.due("customer 0 1", 0);
            desk.due("can 0 0", 0);
            desk.row("told", 5, 1, 0);
        }
        Desk desk = Desk.of("b499,500,501;c499 0 0;c500 0 0;c501 0 0;c498 0 0;c502 0 0;");
        int[] sets = {1, 3, 7, 0, 7};
        for (int c = 0; c < 5; c++) {
            desk.due("customer " + c + " 1", sets[c]);
        }
    }

    // 'He CAN do a TASK, if all its PARTS are THERE.'
    private static void canAll() {
        Desk desk = Desk.of("b500,501,499,500,500,500,500,502;c500 0 0;c501 0 0;c502 0 0;c0 0 0;t127;t255;t128;t0;t125;t2;");
        int[][] want = {{0, 0, 0, 1, 1, 0}, {1, 0, 0, 1, 1, 1}, {1, 1, 1, 1, 1, 1}, {0, 0, 0, 1, 0, 0}};
        for (int c = 0; c < 4; c++) {
            desk.row("can " + c, 0, want[c]);
        }
    }

    // 'He is a HAT, if none is THERE; WHOLE, if all are.'
    private static void hatOrWhole() {
        Desk desk = Desk.of("b500,501,501,501,501,501,501,502;c499 0 0;c500 0 0;c501 0 0;c502 0 0;c999 0 0;");
        desk.row("told", 5, 1, 24);
        Desk one = Desk.of("b999;c998 0 0;c999 0 0;");
        one.row("told", 5, 1, 2);
        Desk all = Desk.of("b0,0;c0 0 0;c1 0 0;c999 0 0;");
        all.row("told", 5, 0, 7);
        Desk nobody = Desk.of("b0;");
        nobody.row("told", 5, 0, 0, 0, 0);
    }

    // 'A BALANCE is from -9999 to 9999'; customer(): 'BALANCE, and 10000'
    private static void farBelowAndAbove() {
        Desk desk = Desk.of("b0,999;c999 99 0;c0 0 99;");
        desk.times(2, "month 60");
        desk.due("customer 0 0", 19999);
        desk.due("customer 0 1", 3);
        desk.due("customer 1 0", 1);
        desk.due("customer 1 1", 0);
        desk.row("told", 5, 2, 1);
    }

    // promise 8: 'What one OWES another one (below 0: the other way about), and 100000. UNKNOWN.'; 'one twice, where two are asked'
    private static void owesBounds() {
        new Desk().refused("owes 0 1", Check.UNKNOWN);
        Desk.of("b0;").refused("owes 0 1", Check.UNKNOWN);
        Desk alone = Desk.of("b0;c0 0 0;");
        alone.refused("owes 0 0", Check.UNKNOWN);
        alone.refused("owes 0 1", Check.UNKNOWN);
        Desk desk = Desk.of("b0;c0 0 0;c0 0 0;c0 0 0;");
        for (int c = 0; c < 3; c++) {
            for (int d = 0; d < 3; d++) {
                desk.due("owes " + c + " " + d, c == d ? Check.UNKNOWN : 100000);
            }
            desk.refused("owes " + c + " 3", Check.UNKNOWN);
            desk.refused("owes " + c + " -1", Check.UNKNOWN);
            desk.refused("owes 3 " + c, Check.UNKNOWN);
            desk.refused("owes -1 " + c, Check.UNKNOWN);
        }
        desk.refused("owes 3 3", Check.UNKNOWN);
        desk.refused("owes -1 -1", Check.UNKNOWN);
        desk.refused("owes " + Integer.MAX_VALUE + " 0", Check.UNKNOWN);
        desk.refused("owes 0 " + Integer.MIN_VALUE, Check.UNKNOWN);
        desk.times(10, "lend 0 2 999");
        desk.call("lend 0 2 9");
        desk.due("owes 2 0", 109999);
        desk.due("owes 0 2", 90001);
        desk.due("owes 1 0", 100000);
        desk.due("owes 1 2", 100000);
    }

    // 'NET of a CUSTOMER: what others OWE him less what he OWES'; customer(): '4 NET, and 100000'
    private static void netBounds() {
        Desk borrower = Desk.of("b0;" + "c0 0 0;".repeat(5));
        Desk lender = Desk.of("b0;" + "c0 0 0;".repeat(5));
        for (int d = 1; d < 5; d++) {
            borrower.times(10, "lend " + d + " 0 999");
            borrower.call("lend " + d + " 0 9");
            lender.times(10, "lend 0 " + d + " 999");
            lender.call("lend 0 " + d + " 9");
        }
        borrower.due("customer 0 4", 100000 - 4 * 9999);
        lender.due("customer 0 4", 100000 + 4 * 9999);
        for (int d = 1; d < 5; d++) {
            borrower.due("customer " + d + " 4", 109999);
            lender.due("customer " + d + " 4", 90001);
        }
        borrower.due("told 7", 1);
        lender.due("told 7", 4);
    }

    // 'CLEARED: how many CUSTOMERS have a NET below 0'
    private static void clearedBelowNothing() {
        Desk desk = Desk.of("b0;c0 0 0;c0 0 0;c0 0 0;");
        desk.due("told 7", 0);
        desk.call("lend 0 1 5");
        desk.due("told 7", 1);
        desk.call("lend 1 2 5");
        desk.due("customer 1 4", 100000);
        desk.due("told 7", 1);
        desk.call("lend 2 0 5");
        desk.due("told 7", 0);
        desk.call("lend 2 0 1");
        desk.due("customer 0 4", 99999);
        desk.due("told 7", 1);
        desk.call("lend 2 1 1");
        desk.due("told 7", 2);
        desk.call("payBack 0 2 6");
        desk.due("customer 0 4", 100005);
        desk.due("customer 2 4", 99996);
        desk.due("told 7", 2);
        desk.call("payBack 1 0 1");
        desk.due("customer 1 4", 100000);
        desk.due("told 7", 1);
    }

    // 'ALL PAID: CUSTOMERS (a SET) who would be WHOLE, if all DEBTS were PAID BACK now'
    private static void allPaidAtItsNeed() {
        Desk desk = Desk.of("b0,500;c510 0 0;c495 0 0;c500 0 0;");
        desk.row("told", 6, 5, 0, 5);
        desk.call("lend 0 1 11");
        desk.row("told", 6, 6, 1, 5);
        desk.call("spend 0 10");
        desk.row("told", 6, 6, 1, 5);
        desk.call("spend 0 1");
        desk.row("told", 6, 6, 1, 4);
        desk.call("lend 1 2 6");
        desk.row("told", 6, 6, 2, 4);
        desk.call("spend 2 1");
        desk.row("told", 6, 6, 2, 0);
        desk.due("owes 1 0", 100011);
    }

    // 'what would be beyond is that': a NET far beyond a BALANCE's bounds makes one WHOLE, or not, all the same
    private static void allPaidBeyondBounds() {
        Desk desk = Desk.of("b999;" + "c0 0 0;".repeat(3));
        for (int d = 1; d < 3; d++) {
            desk.times(10, "lend 0 " + d + " 999");
        }
        desk.due("customer 0 0", 1);
        desk.due("customer 0 4", 119980);
        desk.row("told", 5, 1, 6, 2, 1);
    }

    // promise 9: '1 a CUSTOMER CAN do a TASK, 0 not. UNKNOWN.'
    private static void canBounds() {
        new Desk().refused("can 0 0", Check.UNKNOWN);
        Desk.of("b0;c0 0 0;").refused("can 0 0", Check.UNKNOWN);
        Desk.of("b0;t0;").refused("can 0 0", Check.UNKNOWN);
        Desk desk = Desk.of("b0;c0 0 0;c0 0 0;t0;t1;t0;");
        desk.due("can 1 2", 1);
        for (int wrong : new int[] {-1, 3, Integer.MIN_VALUE, Integer.MAX_VALUE}) {
            desk.refused("can 0 " + wrong, Check.UNKNOWN);
            desk.refused("can " + wrong + " 0", Check.UNKNOWN);
        }
        desk.refused("can 2 0", Check.UNKNOWN);
        desk.refused("can 2 3", Check.UNKNOWN);
    }
}
