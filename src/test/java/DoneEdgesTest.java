import java.util.Random;

/** What is done, at its bounds: promises 10 to 15. Above each test stands the sentence that it holds. */
public final class DoneEdgesTest {
    private static final String TWO = "b500;c500 0 0;c500 0 0;";

    public static void main(String[] args) {
        monthBounds();
        monthWithoutBranch();
        monthFull();
        monthUpToTheBound();
        monthDownToTheBound();
        paidThenSpent();
        spendBounds();
        spendDownToTheBound();
        lendBounds();
        lendAtTheBounds();
        lendNets();
        debtAtMost();
        payBackBounds();
        payBackNot();
        payBackAtTheBounds();
        driftBounds();
        driftWithoutBranch();
        driftWithoutCustomers();
        driftDraws();
        driftAtTheBounds();
        undoNone();
        undoAtMost();
        undoEach();
        undoIsAsAhead();
        undoKeepsTheSeed();
        undoIsNotUndone();
        refusedIsNotUndone();
        Check.end();
    }

    // promise 10: 'n MONTHS (1 .. 60): MONTHS. OUTSIDE'
    private static void monthBounds() {
        Desk desk = Desk.of("b500;c500 1 0;");
        desk.refused("month 0", Check.OUTSIDE);
        desk.refused("month -1", Check.OUTSIDE);
        desk.refused("month 61", Check.OUTSIDE);
        desk.refused("month " + Integer.MIN_VALUE, Check.OUTSIDE);
        desk.refused("month " + Integer.MAX_VALUE, Check.OUTSIDE);
        desk.due("month 1", 1);
        desk.due("customer 0 0", 10001);
        desk.due("month 60", 61);
        desk.due("customer 0 0", 10061);
        desk.due("told 4", 61);
    }

    // 'NOT: no BRANCH'; of several the first
    private static void monthWithoutBranch() {
        Desk desk = new Desk();
        desk.refused("month 1", Check.NOT);
        desk.refused("month 60", Check.NOT);
        desk.refused("month 0", Check.OUTSIDE);
        desk.refused("month 61", Check.OUTSIDE);
        Desk nobody = Desk.of("b0;");
        nobody.due("month 60", 60);
        nobody.due("told 13", 1);
        nobody.due("undo", 0);
        nobody.due("told 4", 0);
    }

    // 'FULL: MONTHS are above 9000'
    private static void monthFull() {
        Desk desk = Desk.of("b500;c500 1 0;");
        desk.times(149, "month 60");
        desk.due("month 59", 8999);
        desk.due("month 1", 9000);
        desk.due("month 1", 9001);
        desk.refused("month 1", Check.FULL);
        desk.refused("month 60", Check.FULL);
        desk.refused("month 0", Check.OUTSIDE);
        desk.refused("month 61", Check.OUTSIDE);
        desk.due("undo", 19);
        desk.due("month 60", 9060);
        desk.refused("month 1", Check.FULL);
        // The other things go on.
        desk.due("spend 0 1", 1);
        desk.due("drift 1", 0);
        desk.call("undo");
        desk.call("undo");
        desk.due("undo", 17);
        desk.due("told 4", 9000);
    }

    // 'A BALANCE is .. to 9999 (what would be beyond is that)': paid
    private static void monthUpToTheBound() {
        Desk desk = Desk.of("b500;c999 99 0;c999 95 0;c999 96 1;");
        desk.call("month 60");
        desk.call("month 35");
        desk.due("customer 0 0", 10000 + 499 + 95 * 99);
        desk.call("month 1");
        desk.due("customer 0 0", 19999);
        desk.call("month 3");
        desk.due("customer 1 0", 19904);
        desk.call("month 1");
        desk.due("customer 1 0", 19999);
        desk.call("month 1");
        desk.due("customer 0 0", 19999);
        desk.due("customer 1 0", 19999);
        desk.due("customer 2 0", 19998);
        for (int k = 0; k < 5; k++) {
            desk.call("undo");
        }
        desk.due("customer 0 0", 10000 + 499 + 60 * 99);
    }

    // 'A BALANCE is from -9999 (what would be beyond is that)': spent each MONTH
    private static void monthDownToTheBound() {
        Desk desk = Desk.of("b500;c0 0 99;c1 0 95;");
        desk.call("month 60");
        desk.call("month 35");
        desk.due("customer 0 0", 9500 - 95 * 99);
        desk.call("month 1");
        desk.due("customer 0 0", 1);
        desk.call("month 3");
        desk.due("customer 1 0", 96);
        desk.call("month 1");
        desk.due("customer 1 0", 1);
        desk.call("month 60");
        desk.due("customer 0 0", 1);
        desk.due("customer 1 0", 1);
    }

    // 'his BALANCE is P more, then M less'
    private static void paidThenSpent() {
        Desk desk = Desk.of("b500;c999 99 30;c0 10 99;c999 99 99;c0 99 99;");
        desk.times(4, "month 60");
        desk.due("customer 0 0", 19969);
        desk.due("customer 1 0", 1);
        desk.due("customer 2 0", 10499);
        desk.due("customer 3 0", 9500);
        desk.call("month 1");
        desk.due("customer 0 0", 19969);
        desk.due("customer 1 0", 1);
    }

    // promise 11: 'SPENT (1 .. 999): PARTS THERE (a SET). UNKNOWN, OUTSIDE.'
    private static void spendBounds() {
        new Desk().refused("spend 0 1", Check.UNKNOWN);
        new Desk().refused("spend 0 0", Check.UNKNOWN);
        Desk desk = Desk.of("b500,501,0;c501 0 0;c999 0 0;");
        for (int c : new int[] {-1, 2, Integer.MIN_VALUE, Integer.MAX_VALUE}) {
            desk.refused("spend " + c + " 1", Check.UNKNOWN);
            desk.refused("spend " + c + " 0", Check.UNKNOWN);
        }
        for (int much : new int[] {0, -1, 1000, Integer.MIN_VALUE, Integer.MAX_VALUE}) {
            desk.refused("spend 0 " + much, Check.OUTSIDE);
        }
        desk.due("spend 0 1", 5);
        desk.due("spend 0 1", 4);
        desk.due("spend 0 499", 4);
        desk.due("spend 0 1", 0);
        desk.due("spend 1 999", 4);
        desk.due("customer 0 0", 9499);
        desk.due("customer 1 0", 9500);
    }

    // 'A BALANCE is from -9999 (what would be beyond is that)': SPENT
    private static void spendDownToTheBound() {
        Desk desk = Desk.of("b0;c0 0 0;c500 0 0;");
        desk.times(9, "spend 0 999");
        desk.due("customer 0 0", 509);
        desk.due("spend 0 507", 0);
        desk.due("customer 0 0", 2);
        desk.due("spend 0 1", 0);
        desk.due("customer 0 0", 1);
        desk.due("spend 0 1", 0);
        desk.due("customer 0 0", 1);
        desk.due("spend 0 999", 0);
        desk.due("customer 0 0", 1);
        // What was beyond is not owed: one more makes one more.
        desk.due("lend 1 0 1", 0);
        desk.due("customer 0 0", 2);
        for (int k = 0; k < 4; k++) {
            desk.call("undo");
        }
        desk.due("customer 0 0", 2);
        desk.call("undo");
        desk.due("customer 0 0", 509);
        desk.call("spend 0 509");
        desk.due("customer 0 0", 1);
    }

    // promise 12: 'LENT (1 .. 999) to another one: PARTS THERE of the other one. UNKNOWN, OUTSIDE'
    private static void lendBounds() {
        new Desk().refused("lend 0 1 1", Check.UNKNOWN);
        Desk.of("b0;c0 0 0;").refused("lend 0 0 1", Check.UNKNOWN);
        Desk desk = Desk.of("b500,501;c999 0 0;c499 0 0;c0 0 0;");
        for (int wrong : new int[] {-1, 3, Integer.MIN_VALUE, Integer.MAX_VALUE}) {
            desk.refused("lend " + wrong + " 0 1", Check.UNKNOWN);
            desk.refused("lend 0 " + wrong + " 1", Check.UNKNOWN);
            desk.refused("lend 0 " + wrong + " 0", Check.UNKNOWN);
        }
        for (int c = 0; c < 3; c++) {
            desk.refused("lend " + c + " " + c + " 1", Check.UNKNOWN);
            desk.refused("lend " + c + " " + c + " 1000", Check.UNKNOWN);
        }
        for (int much : new int[] {0, -1, 1000, Integer.MIN_VALUE, Integer.MAX_VALUE}) {
            desk.refused("lend 0 1 " + much, Check.OUTSIDE);
        }
        desk.due("lend 0 1 1", 1);
        desk.due("lend 0 1 1", 3);
        desk.due("customer 0 0", 10497);
        desk.due("customer 1 0", 10001);
        desk.due("lend 0 2 999", 3);
        desk.due("customer 2 0", 10499);
        desk.due("owes 2 0", 100999);
        desk.due("owes 1 0", 100002);
    }

    // 'LENT: BALANCES change by it' at their bounds: the DEBT is the whole sum
    private static void lendAtTheBounds() {
        Desk desk = Desk.of("b500;c999 99 0;c0 0 99;c500 0 0;");
        desk.times(2, "month 60");
        desk.due("lend 1 0 999", 1);
        desk.due("customer 1 0", 1);
        desk.due("customer 0 0", 19999);
        desk.due("owes 0 1", 100999);
        desk.due("lend 1 2 7", 1);
        desk.due("customer 1 0", 1);
        desk.due("customer 2 0", 10007);
        desk.due("lend 2 0 8", 1);
        desk.due("customer 2 0", 9999);
        desk.due("customer 0 0", 19999);
        desk.due("lend 0 1 1", 0);
        desk.due("customer 0 0", 19998);
        desk.due("customer 1 0", 2);
        desk.due("owes 0 1", 100998);
        desk.call("lend 2 0 1");
        desk.due("customer 0 0", 19999);
    }

    // 'the other one OWES it to him (less what he OWES to that one: one DEBT of two)'
    private static void lendNets() {
        Desk desk = Desk.of(TWO);
        desk.call("lend 0 1 100");
        desk.due("owes 1 0", 100100);
        desk.call("lend 1 0 99");
        desk.due("owes 1 0", 100001);
        desk.due("owes 0 1", 99999);
        desk.call("lend 1 0 1");
        desk.due("owes 1 0", 100000);
        desk.due("owes 0 1", 100000);
        desk.due("told 7", 0);
        desk.call("lend 1 0 1");
        desk.due("owes 1 0", 99999);
        desk.due("owes 0 1", 100001);
        desk.due("customer 0 0", 10001);
        desk.due("customer 1 0", 9999);
    }

    // '9999 at most either way'; 'FULL: the other one would OWE more than 9999'
    private static void debtAtMost() {
        Desk desk = Desk.of(TWO);
        desk.times(10, "lend 0 1 999");
        desk.due("owes 1 0", 109990);
        desk.refused("lend 0 1 10", Check.FULL);
        desk.refused("lend 0 1 999", Check.FULL);
        desk.refused("lend 0 1 1000", Check.OUTSIDE);
        desk.refused("lend 0 0 10", Check.UNKNOWN);
        desk.due("lend 0 1 8", 1);
        desk.refused("lend 0 1 2", Check.FULL);
        desk.due("lend 0 1 1", 1);
        desk.due("owes 1 0", 109999);
        desk.refused("lend 0 1 1", Check.FULL);
        desk.due("payBack 1 0 1", 9998);
        desk.refused("lend 0 1 2", Check.FULL);
        desk.due("lend 0 1 1", 1);
        // All the way to the other end: what he OWES counts first.
        desk.times(20, "lend 1 0 999");
        desk.due("owes 0 1", 100000 + 19980 - 9999);
        desk.refused("lend 1 0 19", Check.FULL);
        desk.due("lend 1 0 18", 1);
        desk.due("owes 0 1", 109999);
        desk.refused("lend 1 0 1", Check.FULL);
        desk.due("lend 0 1 999", 0);
        desk.due("owes 0 1", 109000);
    }

    // promise 13: 'PAID BACK by one to another one (1 .. 999): what he OWES yet. UNKNOWN, OUTSIDE'
    private static void payBackBounds() {
        new Desk().refused("payBack 0 1 1", Check.UNKNOWN);
        Desk.of("b0;c0 0 0;").refused("payBack 0 0 1", Check.UNKNOWN);
        Desk desk = Desk.of(TWO);
        desk.times(2, "lend 0 1 999");
        desk.call("lend 0 1 2");
        for (int wrong : new int[] {-1, 2, Integer.MIN_VALUE, Integer.MAX_VALUE}) {
            desk.refused("payBack " + wrong + " 0 1", Check.UNKNOWN);
            desk.refused("payBack 1 " + wrong + " 1", Check.UNKNOWN);
            desk.refused("payBack 1 " + wrong + " 0", Check.UNKNOWN);
        }
        desk.refused("payBack 1 1 1", Check.UNKNOWN);
        desk.refused("payBack 1 1 1000", Check.UNKNOWN);
        for (int much : new int[] {0, -1, 1000, Integer.MIN_VALUE, Integer.MAX_VALUE}) {
            desk.refused("payBack 1 0 " + much, Check.OUTSIDE);
            desk.refused("payBack 0 1 " + much, Check.OUTSIDE);
        }
        desk.due("payBack 1 0 1", 1999);
        desk.due("payBack 1 0 999", 1000);
        desk.due("payBack 1 0 999", 1);
        desk.due("payBack 1 0 1", 0);
        desk.due("customer 0 0", 10000);
        desk.due("customer 1 0", 10000);
    }

    // 'NOT: he does not OWE so much'
    private static void payBackNot() {
        Desk desk = Desk.of("b500;c500 0 0;c500 0 0;c500 0 0;");
        desk.refused("payBack 1 0 1", Check.NOT);
        desk.call("lend 0 1 998");
        desk.refused("payBack 1 0 999", Check.NOT);
        desk.refused("payBack 0 1 1", Check.NOT);
        desk.refused("payBack 1 2 1", Check.NOT);
        desk.refused("payBack 2 0 1", Check.NOT);
        desk.call("lend 0 1 1");
        desk.due("payBack 1 0 999", 0);
        desk.refused("payBack 1 0 1", Check.NOT);
        desk.due("undo", 2);
        desk.due("payBack 1 0 998", 1);
        desk.refused("payBack 1 0 2", Check.NOT);
    }

    // 'PAID BACK: .. BALANCES change by it', at their bounds
    private static void payBackAtTheBounds() {
        Desk desk = Desk.of("b500;c999 99 0;c0 0 99;");
        desk.call("lend 0 1 999");
        desk.times(2, "month 60");
        desk.times(2, "month 60");
        desk.due("customer 0 0", 19999);
        desk.due("customer 1 0", 1);
        desk.due("payBack 1 0 998", 1);
        desk.due("customer 0 0", 19999);
        desk.due("customer 1 0", 1);
        desk.due("owes 1 0", 100001);
    }

    // promise 14: 'n wagers (1 .. 60) BY DRAWS: who is a HAT (a SET). OUTSIDE'
    private static void driftBounds() {
        Desk desk = Desk.of("b500;c500 0 0;c500 0 0;");
        for (int n : new int[] {0, -1, 61, Integer.MIN_VALUE, Integer.MAX_VALUE}) {
            desk.refused("drift " + n, Check.OUTSIDE);
        }
        // From 0 on: the DRAW of 2 CUSTOMERS is 0, the stake 68, on 0 it is less.
        desk.due("drift 1", 1);
        desk.due("told 5", 1);
        int hats = desk.call("drift 60");
        desk.due("told 5", hats);
        desk.due("told 13", 2);
    }

    // 'NOT: no BRANCH'
    private static void driftWithoutBranch() {
        Desk desk = new Desk();
        desk.call("seed 7");
        desk.refused("drift 1", Check.NOT);
        desk.refused("drift 60", Check.NOT);
        desk.refused("drift 0", Check.OUTSIDE);
        desk.refused("drift 61", Check.OUTSIDE);
        desk.due("seed 7", 7);
    }

    // 'n wagers, if there are CUSTOMERS'
    private static void driftWithoutCustomers() {
        Desk desk = Desk.of("b0;t0;");
        desk.call("seed 7");
        desk.due("drift 60", 0);
        desk.due("seed 7", 7);
        desk.due("told 13", 1);
        desk.due("undo", 0);
    }

    // 'in each a DRAW of CUSTOMERS, of 100 (the stake), of 2: on 0 his BALANCE is so much less, on 1 more'
    private static void driftDraws() {
        Random random = new Random(14);
        for (int customers = 1; customers <= 5; customers++) {
            for (long first : new long[] {0, 1, 65535, 65536, 2147483647L, 2147483646L, random.nextInt(Integer.MAX_VALUE)}) {
                wagers(customers, first, 1);
                wagers(customers, first, 60);
            }
        }
    }

    private static void wagers(int customers, long first, int n) {
        Desk desk = Desk.of("b500;" + "c500 0 0;".repeat(customers));
        desk.call("seed " + first);
        long[] balances = new long[customers];
        long seed = first;
        for (int k = 0; k < n; k++) {
            long[] drawn = new long[3];
            for (int d = 0; d < 3; d++) {
                seed = (seed * 1103515245L + 12345L) % 2147483648L;
                drawn[d] = seed / 65536 % (d == 0 ? customers : d == 1 ? 100 : 2);
            }
            balances[(int) drawn[0]] += drawn[2] == 0 ? -drawn[1] : drawn[1];
        }
        int hats = 0;
        for (int c = 0; c < customers; c++) {
            hats |= balances[c] < 0 ? 1 << c : 0;
        }
        desk.due("drift " + n, hats);
        for (int c = 0; c < customers; c++) {
            desk.due("customer " + c + " 0", (int) balances[c] + 10000);
        }
        desk.due("seed 0", (int) seed);
    }

    // 'A BALANCE is from -9999 to 9999 (what would be beyond is that)': wagers
    private static void driftAtTheBounds() {
        for (int first = 0; first < 20; first++) {
            Desk desk = Desk.of("b500;c999 99 0;c0 0 99;");
            desk.times(2, "month 60");
            desk.call("seed " + first);
            int[] balances = {9999, -9999};
            long seed = first;
            for (int k = 0; k < 60; k++) {
                int[] drawn = new int[3];
                for (int d = 0; d < 3; d++) {
                    seed = (seed * 1103515245L + 12345L) % 2147483648L;
                    drawn[d] = (int) (seed / 65536 % (d == 1 ? 100 : 2));
                }
                int behind = balances[drawn[0]] + (drawn[2] == 0 ? -drawn[1] : drawn[1]);
                balances[drawn[0]] = behind > 9999 ? 9999 : behind < -9999 ? -9999 : behind;
            }
            desk.due("drift 60", 2);
            desk.due("customer 0 0", balances[0] + 10000);
            desk.due("customer 1 0", balances[1] + 10000);
        }
    }

    // promise 15: 'NOT: none.'
    private static void undoNone() {
        new Desk().refused("undo", Check.NOT);
        Desk desk = Desk.of(TWO);
        desk.refused("undo", Check.NOT);
        desk.call("spend 0 1");
        desk.due("undo", 0);
        desk.refused("undo", Check.NOT);
    }

    // '20 at most are kept, the oldest are lost'
    private static void undoAtMost() {
        for (int done : new int[] {19, 20, 21, 40, 41, 59}) {
            Desk desk = Desk.of(TWO);
            for (int k = 1; k <= done; k++) {
                desk.call(k % 2 == 0 ? "spend 0 1" : "lend 0 1 1");
                desk.due("told 13", Math.min(k, 20));
            }
            int kept = Math.min(done, 20);
            for (int k = kept - 1; k >= 0; k--) {
                desk.due("undo", k);
                desk.due("customer 0 0", 10000 - (done - kept) - k);
            }
            desk.refused("undo", Check.NOT);
            desk.due("customer 1 0", 10000 + (done - kept + 1) / 2);
            desk.due("owes 1 0", 100000 + (done - kept + 1) / 2);
            desk.due("spend 0 1", 0);
            desk.due("told 13", 1);
        }
    }

    // 'UNDONE: the latest of month(), spend(), lend(), payBack(), drift() ..: BALANCES, DEBTS, MONTHS are as ahead of it'
    private static void undoEach() {
        Desk desk = Desk.of("b500;c530 30 20;c480 50 60;");
        desk.call("month 60");
        desk.call("spend 1 999");
        desk.call("lend 0 1 9");
        desk.call("payBack 1 0 4");
        desk.call("drift 60");
        int[][] ahead = {{10630 - 9 + 4, 8381 + 9 - 4, 100005, 60}, {10630 - 9, 8381 + 9, 100009, 60},
            {10630, 8381, 100000, 60}, {10630, 9380, 100000, 60}, {10030, 9980, 100000, 0}};
        for (int k = 0; k < 5; k++) {
            desk.due("undo", 4 - k);
            desk.due("customer 0 0", ahead[k][0]);
            desk.due("customer 1 0", ahead[k][1]);
            desk.due("owes 1 0", ahead[k][2]);
            desk.due("told 4", ahead[k][3]);
        }
    }

    // 'are as ahead of it': the whole state, not the parts that a test thinks of
    private static void undoIsAsAhead() {
        for (String call : new String[] {"month 1", "month 60", "spend 0 1", "spend 0 999", "lend 0 1 1", "lend 1 0 999", "payBack 1 0 5"}) {
            Desk undone = busy();
            undone.call(call);
            undone.due("undo", 3);
            undone.alike("as ahead of " + call, busy());
        }
    }

    private static Desk busy() {
        Desk desk = Desk.of(Check.HILL);
        desk.call("month 2");
        desk.call("keep 1");
        desk.call("lend 0 1 7");
        desk.call("lend 2 1 300");
        desk.call("drift 5");
        desk.call("spending 9");
        desk.call("write 0 10000");
        return desk;
    }

    // 'THE SEED stays'; and so does what is told beside
    private static void undoKeepsTheSeed() {
        Desk desk = Desk.of(TWO);
        desk.call("drift 1");
        desk.call("spending 3");
        desk.call("write 0 10000");
        desk.call("see 0 true");
        desk.call("must 0 0");
        desk.feed("b1");
        desk.due("undo", 0);
        desk.due("seed 9", 654583775);
        desk.row("told", 9, 1, 0, 1, 1, 0);
        desk.due("told 3", 2);
        desk.call("spend 0 1");
        desk.call("seed 10");
        desk.due("undo", 0);
        desk.due("seed 11", 10);
    }

    // 'UNDONE: the latest of month(), spend(), lend(), payBack(), drift()': no other call
    private static void undoIsNotUndone() {
        Desk desk = Desk.of("b500;c500 0 0;t1;");
        for (String call : new String[] {"spending 1", "must 0 0", "see 0 true", "write 0 0", "tear", "seed 1", "hat 0", "able 0 0 1",
            "plan 0 1 -1", "asOne 0 -1", "loan 0 0 0", "order 0", "wage 1 1", "has 0", "look", "judge", "feed 98", "told 0"}) {
            desk.call(call);
            desk.due("told 13", 0);
        }
        desk.call("spend 0 1");
        desk.call("undo");
        desk.due("undo", Check.NOT);
        desk.due("customer 0 0", 10000);
    }

    // 'that was not refused'
    private static void refusedIsNotUndone() {
        Desk desk = Desk.of(TWO);
        desk.call("spend 0 3");
        for (String call : new String[] {"month 0", "month 61", "spend 2 1", "spend 0 0", "lend 0 0 1", "lend 0 1 1000", "payBack 0 1 1",
            "drift 0", "drift 61"}) {
            desk.call(call);
            desk.due("told 13", 1);
        }
        desk.due("undo", 0);
        desk.due("customer 0 0", 10000);
    }
}
