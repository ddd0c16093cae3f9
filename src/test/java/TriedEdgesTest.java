/** What is tried, at its bounds: promises 16 to 24. Above each test stands the sentence that it holds. */
public final class TriedEdgesTest {
    private static final int[] FAR = {Integer.MIN_VALUE, Integer.MAX_VALUE};

    public static void main(String[] args) {
        nothingChanges();
        hatUnknown();
        hatHorizon();
        hatFirst();
        ableBounds();
        ableMonths();
        spendingBounds();
        spendingFull();
        mustBounds();
        mustFull();
        planUnknown();
        planMonths();
        planMonthsTold();
        planWhich();
        planOfNothing();
        planAtItsNeed();
        planFirst();
        planLast();
        planAtTheBounds();
        asOneUnknown();
        asOneAtItsNeed();
        asOnePairs();
        asOneAlone();
        loanBounds();
        loanLeast();
        loanMost();
        giveMost();
        orderBounds();
        orderOfLikeOnes();
        wageBounds();
        wageCuts();
        Check.end();
    }

    // 'TRIED from now; nothing changes by it.'
    private static void nothingChanges() {
        Desk desk = Desk.of(Check.HILL);
        desk.call("keep 1");
        desk.call("seed 6");
        desk.call("month 2");
        desk.call("lend 0 1 5");
        desk.call("spending 9");
        desk.call("must 0 1");
        desk.call("see 1 true");
        desk.call("write 0 10000");
        desk.feed("b1");
        desk.tried("hat 1", 2);
        desk.tried("able 0 0 60", 60);
        desk.tried("plan 0 2 -1", 1);
        desk.tried("plan 0 2 0", 0);
        desk.tried("asOne 1 -1", 0);
        desk.tried("loan 0 1 0", 55);
        desk.tried("order 0", 3);
        desk.tried("wage 60 1", 547156620);
        desk.tried("has 1", 10020);
        desk.tried("look", 3);
        desk.tried("judge", 0);
        desk.tried("told 8", 0);
    }

    // promise 16: 'UNKNOWN.'
    private static void hatUnknown() {
        new Desk().refused("hat 0", Check.UNKNOWN);
        Desk.of("b0;").refused("hat 0", Check.UNKNOWN);
        Desk desk = Desk.of("b0;c0 0 0;c0 0 0;");
        desk.due("hat 1", Check.NONE);
        desk.refused("hat 2", Check.UNKNOWN);
        desk.refused("hat -1", Check.UNKNOWN);
        for (int c : FAR) {
            desk.refused("hat " + c, Check.UNKNOWN);
        }
    }

    // 'HAT: behind how many MONTHS (0 .. 200) a CUSTOMER is a HAT first; NONE.'
    private static void hatHorizon() {
        Desk desk = Desk.of("b500;c698 1 2;c699 1 2;c700 1 2;c701 1 2;");
        desk.row("hat", 0, 199, 200, Check.NONE, Check.NONE);
        desk.call("month 1");
        desk.row("hat", 0, 198, 199, 200, Check.NONE);
        desk.call("month 60");
        desk.row("hat", 0, 138, 139, 140, 141);
        desk.call("undo");
        desk.call("undo");
        desk.row("hat", 0, 199, 200, Check.NONE, Check.NONE);
    }

    // 'a HAT first': now is 0; the last PART that goes counts; one who gets no poorer never is
    private static void hatFirst() {
        Desk desk = Desk.of("b500,999,400;c399 99 0;c400 0 1;c999 0 99;c400 7 7;c400 99 0;");
        desk.row("hat", 0, 0, 1, 7, Check.NONE, Check.NONE);
        Desk lowest = Desk.of("b0;c0 0 1;c0 1 1;c999 0 99;");
        lowest.row("hat", 0, 1, Check.NONE, 11);
        lowest.call("spend 1 1");
        lowest.due("hat 1", 0);
    }

    // promise 17: 'n 1 .. 60'; 'UNKNOWN, OUTSIDE.'
    private static void ableBounds() {
        new Desk().refused("able 0 0 1", Check.UNKNOWN);
        new Desk().refused("able 0 0 0", Check.UNKNOWN);
        Desk desk = Desk.of("b500;c500 0 0;c500 0 0;t1;t0;t1;");
        desk.due("able 1 2 1", 1);
        desk.due("able 1 2 60", 60);
        for (int n : new int[] {0, -1, 61, Integer.MIN_VALUE, Integer.MAX_VALUE}) {
            desk.refused("able 0 0 " + n, Check.OUTSIDE);
            desk.refused("able 2 0 " + n, Check.UNKNOWN);
            desk.refused("able 0 3 " + n, Check.UNKNOWN);
        }
        desk.refused("able -1 0 1", Check.UNKNOWN);
        desk.refused("able 0 -1 1", Check.UNKNOWN);
        desk.refused("able 2 0 1", Check.UNKNOWN);
        desk.refused("able 0 3 1", Check.UNKNOWN);
        for (int wrong : FAR) {
            desk.refused("able " + wrong + " 0 1", Check.UNKNOWN);
            desk.refused("able 0 " + wrong + " 1", Check.UNKNOWN);
        }
    }

    // 'ABLE: behind how many of 0 to n less 1 MONTHS .. he CAN do a TASK.'
    private static void ableMonths() {
        Desk desk = Desk.of("b500;c559 0 1;c558 0 1;c500 0 1;c499 1 0;c441 1 0;t1;t0;");
        desk.due("able 0 0 60", 60);
        desk.due("able 1 0 60", 59);
        desk.due("able 1 0 59", 59);
        desk.row("able 2 0", 1, 1, 1, 1);
        desk.row("able 3 0", 1, 0, 1, 2);
        desk.due("able 4 0 59", 0);
        desk.due("able 4 0 60", 1);
        desk.due("able 4 1 60", 60);
    }

    // promise 18: 'A SPENDING (1 .. 999): how many. OUTSIDE'
    private static void spendingBounds() {
        Desk desk = new Desk();
        for (int much : new int[] {0, -1, 1000, Integer.MIN_VALUE, Integer.MAX_VALUE}) {
            desk.refused("spending " + much, Check.OUTSIDE);
        }
        desk.due("spending 1", 1);
        desk.due("spending 999", 2);
        desk.due("told 9", 2);
    }

    // 'FULL (5)'; 'SPENDINGS (sums, 5 at most, told one by one)'
    private static void spendingFull() {
        Desk desk = Desk.of("b500;c500 0 0;");
        for (int k = 1; k <= 5; k++) {
            desk.due("spending " + k, k);
        }
        desk.refused("spending 6", Check.FULL);
        desk.refused("spending 1000", Check.OUTSIDE);
        desk.refused("spending 0", Check.OUTSIDE);
        desk.due("told 9", 5);
        desk.due("plan 0 1 4", 0);
        desk.due("plan 0 1 5", Check.NONE);
        desk.due("tear", 5);
        desk.due("spending 6", 1);
    }

    // promise 19: 'A TASK must be done in a MONTH (0 .. 3): how many. UNKNOWN, OUTSIDE'
    private static void mustBounds() {
        new Desk().refused("must 0 0", Check.UNKNOWN);
        new Desk().refused("must 0 4", Check.UNKNOWN);
        Desk.of("b0;c0 0 0;").refused("must 0 0", Check.UNKNOWN);
        Desk desk = Desk.of("b0;t0;t1;");
        for (int t : new int[] {-1, 2, Integer.MIN_VALUE, Integer.MAX_VALUE}) {
            desk.refused("must " + t + " 0", Check.UNKNOWN);
            desk.refused("must " + t + " 4", Check.UNKNOWN);
        }
        for (int month : new int[] {-1, 4, Integer.MIN_VALUE, Integer.MAX_VALUE}) {
            desk.refused("must 1 " + month, Check.OUTSIDE);
        }
        desk.due("must 0 0", 1);
        desk.due("must 1 3", 2);
        desk.due("told 10", 2);
    }

    // 'FULL (4)'; 'all TASKS told (4 at most, each in its MONTH)'
    private static void mustFull() {
        Desk desk = Desk.of("b0;c0 0 0;t0;");
        for (int k = 1; k <= 4; k++) {
            desk.due("must 0 " + (k - 1), k);
        }
        desk.refused("must 0 0", Check.FULL);
        desk.refused("must 0 4", Check.OUTSIDE);
        desk.refused("must 0 -1", Check.OUTSIDE);
        desk.refused("must 1 0", Check.UNKNOWN);
        desk.refused("must -1 4", Check.UNKNOWN);
        desk.due("told 10", 4);
        desk.due("tear", 4);
        // The same TASK in the same MONTH counts each time.
        desk.due("must 0 0", 1);
        desk.due("must 0 0", 2);
    }

    // promise 20: 'UNKNOWN'
    private static void planUnknown() {
        new Desk().refused("plan 0 1 -1", Check.UNKNOWN);
        new Desk().refused("plan 0 0 -1", Check.UNKNOWN);
        Desk desk = Desk.of("b0;c0 0 0;t0;");
        desk.call("must 0 3");
        for (int c : new int[] {-1, 1, Integer.MIN_VALUE, Integer.MAX_VALUE}) {
            desk.refused("plan " + c + " 4 -1", Check.UNKNOWN);
            desk.refused("plan " + c + " 3 -1", Check.UNKNOWN);
            desk.refused("plan " + c + " 0 0", Check.UNKNOWN);
            desk.refused("plan " + c + " 5 0", Check.UNKNOWN);
        }
    }

    // 'n 1 .. 4'; 'OUTSIDE'
    private static void planMonths() {
        Desk desk = Desk.of("b0;c0 0 0;");
        for (int i = -2; i < 2; i++) {
            for (int n : new int[] {0, -1, 5, Integer.MIN_VALUE, Integer.MAX_VALUE}) {
                desk.refused("plan 0 " + n + " " + i, Check.OUTSIDE);
            }
        }
        for (int n = 1; n <= 4; n++) {
            desk.due("plan 0 " + n + " -1", 1);
        }
    }

    // 'OUTSIDE (also a MONTH told that is n or more)'
    private static void planMonthsTold() {
        for (int month = 0; month <= 3; month++) {
            // Wherever it was told among four.
            for (int place = 0; place < 4; place++) {
                Desk desk = Desk.of("b0;c0 0 0;t0;");
                for (int k = 0; k < 4; k++) {
                    desk.call("must 0 " + (k == place ? month : 0));
                }
                for (int n = 1; n <= 4; n++) {
                    desk.tried("plan 0 " + n + " -1", n <= month ? Check.OUTSIDE : 1);
                    desk.tried("plan 0 " + n + " 0", n <= month ? Check.OUTSIDE : Check.NONE);
                }
            }
        }
    }

    // 'i = NONE 1 there is one, 0 not, else which MONTH; NONE.'
    private static void planWhich() {
        Desk desk = Desk.of("b500;c505 0 0;t1;");
        desk.call("spending 5");
        desk.call("spending 1");
        desk.call("must 0 0");
        desk.row("plan 0 2", -2, Check.NONE, 1, 0, 1, Check.NONE, Check.NONE);
        desk.row("plan 0 1", -2, Check.NONE, 0, Check.NONE, Check.NONE, Check.NONE, Check.NONE);
        for (int i : FAR) {
            desk.due("plan 0 2 " + i, Check.NONE);
            desk.due("plan 0 1 " + i, Check.NONE);
        }
    }

    // PLAN, with nothing to give, or nothing that must be done
    private static void planOfNothing() {
        Desk desk = Desk.of("b500;c500 0 0;c499 0 0;t1;");
        desk.row("plan 0 4", -1, 1, Check.NONE);
        desk.times(5, "spending 999");
        desk.row("plan 0 4", -1, 1, 0, 0, 0, 0, 0, Check.NONE);
        desk.row("plan 1 1", -1, 1, 0, 0, 0, 0, 0, Check.NONE);
        desk.call("tear");
        desk.call("must 0 0");
        desk.row("plan 0 4", -1, 1, Check.NONE);
        desk.row("plan 1 4", -1, 0, Check.NONE);
    }

    // 'CAN do all TASKS told .., when he has spent what is given to that MONTH and those ahead'; 'MONTH k: when k MONTHS have passed'
    private static void planAtItsNeed() {
        for (int month = 0; month <= 3; month++) {
            // Behind k MONTHS he has 10 more each: so much can be spent up to the MONTH told, and one more cannot.
            Desk exact = Desk.of("b500;c500 10 0;t1;");
            Desk more = Desk.of("b500;c500 10 0;t1;");
            exact.call("must 0 " + month);
            more.call("must 0 " + month);
            exact.call("spending " + Math.max(1, month * 10));
            more.call("spending " + (month * 10 + 1));
            exact.due("plan 0 4 0", month == 0 ? 1 : 0);
            more.row("plan 0 4", -1, month < 3 ? 1 : 0, month < 3 ? month + 1 : Check.NONE);
        }
    }

    // 'the first such (SPENDING by SPENDING the least MONTH)'
    private static void planFirst() {
        Desk desk = Desk.of("b500;c510 0 0;c530 0 10;c510 10 0;t1;");
        desk.call("spending 10");
        desk.call("spending 5");
        desk.call("spending 5");
        desk.call("must 0 0");
        desk.row("plan 0 3", -1, 1, 0, 1, 1);
        desk.row("plan 1 3", -1, 1, 0, 0, 0);
        desk.call("must 0 1");
        desk.row("plan 0 3", -1, 1, 0, 2, 2);
        // 30, 20: the first sum leaves 10 in MONTH 1, the two others fit it.
        desk.row("plan 1 3", -1, 1, 0, 0, 0);
        // 10, 20: ten in MONTH 0, ten in MONTH 1.
        desk.row("plan 2 3", -1, 1, 0, 1, 1);
        desk.call("must 0 2");
        // 30, 20, 10: ten only up to MONTH 2.
        desk.row("plan 1 3", -1, 0, Check.NONE, Check.NONE, Check.NONE);
        desk.row("plan 1 4", -1, 1, 0, 3, 3);
    }

    // 5 SPENDINGS, 4 MONTHS, 4 TASKS: the last way of all
    private static void planLast() {
        Desk desk = Desk.of("b500;c500 0 0;c0 0 0;t1;t0;");
        desk.times(5, "spending 1");
        desk.call("must 0 0");
        desk.call("must 0 1");
        desk.call("must 0 2");
        desk.call("must 1 3");
        desk.row("plan 0 4", -1, 1, 3, 3, 3, 3, 3, Check.NONE);
        desk.row("plan 1 4", -1, 0, Check.NONE);
        desk.due("plan 0 3 -1", Check.OUTSIDE);
    }

    // PLAN of one at a bound of BALANCES
    private static void planAtTheBounds() {
        Desk desk = Desk.of("b0,999;c999 99 0;c0 0 99;t1;t3;t0;");
        desk.times(2, "month 60");
        desk.times(5, "spending 999");
        desk.call("must 1 3");
        desk.row("plan 0 4", -1, 1, 0, 0, 0, 0, 0);
        desk.due("plan 1 4 -1", 0);
        desk.call("tear");
        desk.times(5, "spending 999");
        desk.call("must 2 3");
        desk.row("plan 1 4", -1, 1, 0, 0, 0, 0, 0);
    }

    // promise 21: 'UNKNOWN.'
    private static void asOneUnknown() {
        new Desk().refused("asOne 0 -1", Check.UNKNOWN);
        Desk.of("b0;c0 0 0;").refused("asOne 0 -1", Check.UNKNOWN);
        Desk desk = Desk.of("b0;c0 0 0;t0;t1;");
        desk.due("asOne 1 -1", 0);
        for (int t : new int[] {-1, 2, Integer.MIN_VALUE, Integer.MAX_VALUE}) {
            desk.refused("asOne " + t + " -1", Check.UNKNOWN);
            desk.refused("asOne " + t + " 0", Check.UNKNOWN);
        }
    }

    // 'neither of whom CAN do a TASK, but one CAN who has both their BALANCES together'
    private static void asOneAtItsNeed() {
        Desk desk = Desk.of("b600;c599 0 0;c501 0 0;c500 0 0;c600 0 0;t1;t0;");
        // 99 and 1 are enough, 99 and 0 are not; who has 100 is in no pair.
        desk.row("asOne 0", -1, 1, 1, Check.NONE);
        desk.row("asOne 1", -1, 0, Check.NONE);
        desk.call("spend 3 1");
        // Now he has 99 too: with the 99 and the 1.
        desk.row("asOne 0", -1, 3, 1, 3, 13, Check.NONE);
        desk.call("spend 0 1");
        desk.row("asOne 0", -1, 2, 3, 13, Check.NONE);
        // The second one gets poorer: the pairs with him go first.
        desk.call("spend 1 1");
        desk.row("asOne 0", -1, 1, 3, Check.NONE);
    }

    // 'pairs of CUSTOMERS (10 times the lesser and the other; rising) ..: how many; the i-th; NONE'
    private static void asOnePairs() {
        Desk desk = Desk.of("b600;" + "c550 0 0;".repeat(5) + "t1;");
        desk.row("asOne 0", -2, Check.NONE, 10, 1, 2, 3, 4, 12, 13, 14, 23, 24, 34, Check.NONE);
        for (int i : FAR) {
            desk.due("asOne 0 " + i, Check.NONE);
        }
    }

    // AS ONE without pairs: nobody, one alone; far below the bounds together
    private static void asOneAlone() {
        Desk.of("b600;t1;").row("asOne 0", -1, 0, Check.NONE);
        Desk.of("b600;c599 0 0;t1;").row("asOne 0", -1, 0, Check.NONE);
        Desk desk = Desk.of("b0;c0 0 99;c0 0 99;t1;");
        desk.call("month 60");
        desk.call("month 60");
        desk.row("asOne 0", -1, 0, Check.NONE);
    }

    // promise 22: 'what = 0 LOAN, 1 GIVE; NONE. UNKNOWN, OUTSIDE.'
    private static void loanBounds() {
        new Desk().refused("loan 0 0 0", Check.UNKNOWN);
        new Desk().refused("loan 0 0 2", Check.UNKNOWN);
        Desk desk = Desk.of("b500;c500 0 0;t1;");
        desk.due("loan 0 0 0", 0);
        desk.due("loan 0 0 1", 0);
        for (int wrong : new int[] {-1, 1, Integer.MIN_VALUE, Integer.MAX_VALUE}) {
            desk.refused("loan " + wrong + " 0 0", Check.UNKNOWN);
            desk.refused("loan 0 " + wrong + " 0", Check.UNKNOWN);
            desk.refused("loan " + wrong + " 0 2", Check.UNKNOWN);
            desk.refused("loan 0 " + wrong + " -1", Check.UNKNOWN);
        }
        for (int what : new int[] {-1, 2, Integer.MIN_VALUE, Integer.MAX_VALUE}) {
            desk.refused("loan 0 0 " + what, Check.OUTSIDE);
        }
    }

    // 'LOAN: the least sum .. that, LENT to a CUSTOMER, makes him able to do a TASK'
    private static void loanLeast() {
        Desk desk = Desk.of("b500,700,0;c500 0 0;c499 0 0;c0 0 0;c999 0 0;t1;t3;t4;t0;");
        int[][] loans = {{0, 200, 0, 0}, {1, 201, 0, 0}, {500, 700, 0, 0}, {0, 0, 0, 0}};
        int[][] gives = {{0, -1, 500, 9999}, {-1, -1, 499, 9999}, {-1, -1, 0, 9999}, {499, 299, 999, 9999}};
        for (int c = 0; c < 4; c++) {
            for (int t = 0; t < 4; t++) {
                desk.due("loan " + c + " " + t + " 0", loans[c][t]);
                desk.due("loan " + c + " " + t + " 1", gives[c][t]);
            }
        }
        // What is LENT so, does it; one less would not.
        desk.call("lend 3 0 199");
        desk.due("can 0 1", 0);
        desk.due("loan 0 1 0", 1);
        desk.call("lend 3 0 1");
        desk.due("can 0 1", 1);
        desk.due("loan 0 1 0", 0);
        desk.due("loan 0 1 1", 0);
    }

    // 'the least sum (0 .. 9999) ..; NONE'
    private static void loanMost() {
        Desk desk = Desk.of("b499,500,501,0,999;c0 0 99;t1;t2;t4;t8;t16;t0;");
        desk.times(2, "month 60");
        desk.due("customer 0 0", 1);
        int[] want = {9998, 9999, Check.NONE, 9499, Check.NONE, 0};
        for (int t = 0; t < 6; t++) {
            desk.due("loan 0 " + t + " 0", want[t]);
            desk.due("loan 0 " + t + " 1", t == 5 ? 9999 : Check.NONE);
        }
    }

    // 'GIVE: the most (0 .. 9999) that he could give away and still do it; NONE: he CAN not.'
    private static void giveMost() {
        Desk desk = Desk.of("b499,500,501,0,999;c999 99 0;t1;t2;t4;t8;t16;t0;");
        desk.times(2, "month 60");
        desk.due("customer 0 0", 19999);
        int[] want = {9999, 9999, 9998, 9999, 9500, 9999};
        for (int t = 0; t < 6; t++) {
            desk.due("loan 0 " + t + " 1", want[t]);
            desk.due("loan 0 " + t + " 0", 0);
        }
        desk.call("spend 0 1");
        desk.row("loan 0 0", 0, 0, 9999);
        desk.row("loan 0 1", 0, 0, 9998);
    }

    // promise 23: 'ORDER; NONE.'
    private static void orderBounds() {
        new Desk().row("order", -2, Check.NONE, Check.NONE, Check.NONE, Check.NONE);
        for (int parts = 1; parts <= 8; parts++) {
            Desk desk = Desk.of("b9" + ",8".repeat(parts - 1) + ";");
            desk.due("order 0", 0);
            desk.due("order " + (parts - 1), parts - 1);
            desk.due("order " + parts, Check.NONE);
            desk.due("order -1", Check.NONE);
            desk.due("order " + Integer.MIN_VALUE, Check.NONE);
            desk.due("order " + Integer.MAX_VALUE, Check.NONE);
        }
    }

    // 'the greatest T first; of like ones the least'
    private static void orderOfLikeOnes() {
        Desk.of("b5,5,5,5,5,5,5,5;").row("order", 0, 0, 1, 2, 3, 4, 5, 6, 7, Check.NONE);
        Desk.of("b0,1,2,3,4,5,6,7;").row("order", 0, 7, 6, 5, 4, 3, 2, 1, 0, Check.NONE);
        Desk.of("b999,0,999,0,998,999;").row("order", 0, 0, 2, 5, 4, 1, 3, Check.NONE);
    }

    // promise 24: 'n wages (0 .. 60)'; 'q 0 .. 100'; 'OUTSIDE.'
    private static void wageBounds() {
        Desk desk = new Desk();
        desk.row("wage 0", 0, 1000000000);
        desk.row("wage 0", 99, 1000000000, 1000000000, Check.OUTSIDE);
        desk.row("wage 1", -1, Check.OUTSIDE, 1000000000, 990000000);
        desk.row("wage 1", 99, 10000000, 0, Check.OUTSIDE);
        desk.row("wage 60", -1, Check.OUTSIDE, 1000000000, 547156620);
        desk.row("wage 60", 99, 0, 0, Check.OUTSIDE);
        for (int wrong : new int[] {-1, 61, Integer.MIN_VALUE, Integer.MAX_VALUE}) {
            desk.refused("wage " + wrong + " 0", Check.OUTSIDE);
            desk.refused("wage " + wrong + " 101", Check.OUTSIDE);
        }
        for (int wrong : new int[] {-1, 101, Integer.MIN_VALUE, Integer.MAX_VALUE}) {
            desk.refused("wage 0 " + wrong, Check.OUTSIDE);
        }
    }

    // 'a BILLION times (100 less q) / 100 each (cut)'
    private static void wageCuts() {
        Desk desk = new Desk();
        int[] half = {500000000, 250000000, 125000000, 62500000, 31250000, 15625000, 7812500, 3906250, 1953125, 976562, 488281};
        int[] most = {630000000, 396900000, 250047000, 157529610, 99243654, 62523502, 39389806, 24815577, 15633813, 9849302};
        for (int n = 1; n <= half.length; n++) {
            desk.due("wage " + n + " 50", half[n - 1]);
        }
        for (int n = 1; n <= most.length; n++) {
            desk.due("wage " + n + " 37", most[n - 1]);
        }
        desk.due("wage 29 50", 1);
        desk.due("wage 30 50", 0);
        desk.due("wage 4 99", 10);
        desk.due("wage 5 99", 0);
    }
}
