/** What is seen, drawn and kept, at its bounds: promises 25 to 33. Above each test stands the sentence that it holds. */
public final class SeenEdgesTest {
    private static final int[] FAR = {Integer.MIN_VALUE, Integer.MAX_VALUE};

    public static void main(String[] args) {
        seeUnknown();
        seeFull();
        hasBounds();
        hasAtItsEnds();
        hasNone();
        hasBetween();
        lookNone();
        lookBest();
        lookOfLikeOnes();
        writeBounds();
        writeFull();
        judgeAtTheBounds();
        judgeFirst();
        tearAll();
        tearLeavesTheRest();
        seedBounds();
        seedDraws();
        keepUnknown();
        keepWhatIsSo();
        keepEndsUndoing();
        goBackNot();
        goBackAgain();
        goBackLeavesTheRest();
        imagesEnd();
        Check.end();
    }

    private static void hasIs(Desk desk, int count, int least, int greatest) {
        desk.row("has", 0, count, least, greatest);
    }

    // promise 25: 'SEEN: how much. UNKNOWN'
    private static void seeUnknown() {
        new Desk().refused("see 0 true", Check.UNKNOWN);
        new Desk().refused("see 0 false", Check.UNKNOWN);
        for (int parts = 1; parts <= 8; parts++) {
            Desk desk = Desk.of("b5" + ",5".repeat(parts - 1) + ";");
            desk.refused("see -1 true", Check.UNKNOWN);
            desk.refused("see " + parts + " true", Check.UNKNOWN);
            for (int k : FAR) {
                desk.refused("see " + k + " false", Check.UNKNOWN);
            }
            desk.due("see 0 true", 1);
            desk.due("see " + (parts - 1) + " false", 2);
            desk.due("told 11", 2);
        }
    }

    // 'FULL (8)'; 'SEEN (8 at most)'
    private static void seeFull() {
        Desk desk = Desk.of("b500,600;");
        for (int k = 1; k <= 7; k++) {
            desk.due("see 0 true", k);
        }
        hasIs(desk, 500, 10000, 10499);
        desk.due("see 1 false", 8);
        hasIs(desk, 100, 10000, 10099);
        desk.refused("see 0 false", Check.FULL);
        desk.refused("see 0 true", Check.FULL);
        desk.refused("see 2 true", Check.UNKNOWN);
        desk.refused("see -1 true", Check.UNKNOWN);
        desk.due("told 11", 8);
        desk.due("tear", 8);
        desk.due("see 0 false", 1);
        hasIs(desk, 500, 9500, 9999);
    }

    // promise 26: 'what = 0 how many, 1 the least, 2 the greatest .. OUTSIDE.'
    private static void hasBounds() {
        for (Desk desk : new Desk[] {new Desk(), Desk.of("b500;")}) {
            hasIs(desk, 1000, 9500, 10499);
            for (int what : new int[] {-1, 3, Integer.MIN_VALUE, Integer.MAX_VALUE}) {
                desk.refused("has " + what, Check.OUTSIDE);
            }
        }
        Desk none = Desk.of("b0;");
        none.call("see 0 false");
        none.refused("has 3", Check.OUTSIDE);
        none.refused("has -1", Check.OUTSIDE);
    }

    // 'BALANCES (-500 .. 499) by which all that is SEEN is so', at the least and the greatest T
    private static void hasAtItsEnds() {
        int[][] want = {{0, 1000, 9500, 10499, 0, -1, -1}, {1, 999, 9501, 10499, 1, 9500, 9500}, {998, 2, 10498, 10499, 998, 9500, 10497},
            {999, 1, 10499, 10499, 999, 9500, 10498}, {500, 500, 10000, 10499, 500, 9500, 9999}};
        for (int[] w : want) {
            Desk desk = Desk.of("b" + w[0] + ";");
            desk.call("see 0 true");
            hasIs(desk, w[1], w[2], w[3]);
            desk.call("tear");
            desk.call("see 0 false");
            hasIs(desk, w[4], w[5], w[6]);
        }
    }

    // 'how many; the least; the greatest; NONE'
    private static void hasNone() {
        Desk desk = Desk.of("b500,501,500;");
        desk.call("see 0 true");
        desk.call("see 1 false");
        hasIs(desk, 1, 10000, 10000);
        desk.call("see 2 false");
        hasIs(desk, 0, Check.NONE, Check.NONE);
        desk.call("see 0 true");
        hasIs(desk, 0, Check.NONE, Check.NONE);
        desk.call("tear");
        desk.call("see 0 true");
        desk.call("see 0 false");
        hasIs(desk, 0, Check.NONE, Check.NONE);
        desk.call("tear");
        desk.call("see 1 true");
        desk.call("see 0 false");
        hasIs(desk, 0, Check.NONE, Check.NONE);
    }

    // HAS, of several that bind from one side the one that binds most
    private static void hasBetween() {
        Desk desk = Desk.of("b100,300,700,900;");
        desk.call("see 1 true");
        desk.call("see 0 true");
        desk.call("see 2 false");
        desk.call("see 3 false");
        hasIs(desk, 400, 9800, 10199);
    }

    // promise 27: 'NONE: none parts them'
    private static void lookNone() {
        new Desk().due("look", Check.NONE);
        Desk.of("b0;").due("look", Check.NONE);
        Desk.of("b0,0,0;").due("look", Check.NONE);
        Desk.of("b1;").due("look", 0);
        Desk.of("b999;").due("look", 0);
        Desk desk = Desk.of("b500,501;");
        desk.call("see 0 true");
        desk.due("look", 1);
        desk.call("see 1 false");
        desk.due("look", Check.NONE);
        desk.call("see 1 true");
        desk.due("has 0", 0);
        desk.due("look", Check.NONE);
        desk.call("tear");
        desk.call("see 0 true");
        desk.call("see 1 true");
        desk.due("look", Check.NONE);
        desk.call("tear");
        desk.call("see 0 false");
        desk.due("look", Check.NONE);
    }

    // 'LOOK: the PART by which these are told apart best: the greatest part that is alike is least'
    private static void lookBest() {
        Desk.of("b0,999,1,998,2;").due("look", 3);
        Desk.of("b499,500,501;").due("look", 1);
        Desk.of("b100,899;").due("look", 1);
        Desk.of("b100,900;").due("look", 0);
        Desk.of("b100,901;").due("look", 0);
        Desk.of("b99,900;").due("look", 1);
        Desk desk = Desk.of("b500,800,750,700,999;");
        desk.call("see 0 true");
        desk.due("look", 2);
        desk.call("see 2 true");
        // 250 .. 499: at 800 fifty are apart, at 999 one.
        desk.due("look", 1);
        desk.call("see 1 true");
        desk.due("look", 4);
        desk.call("see 4 true");
        desk.due("look", Check.NONE);
    }

    // 'of like ones the least'
    private static void lookOfLikeOnes() {
        Desk.of("b400,600;").due("look", 0);
        Desk.of("b600,400;").due("look", 0);
        Desk.of("b0,600,400,600;").due("look", 1);
        Desk.of("b500,500;").due("look", 0);
        Desk.of("b1,999;").due("look", 0);
        Desk.of("b999,1;").due("look", 0);
    }

    // promise 28: 'An entry behind THE BOOK (0 .. 20000): how many. UNKNOWN, OUTSIDE'
    private static void writeBounds() {
        new Desk().refused("write 0 0", Check.UNKNOWN);
        new Desk().refused("write 0 -1", Check.UNKNOWN);
        Desk desk = Desk.of("b0;c500 0 0;c500 0 0;");
        for (int c : new int[] {-1, 2, Integer.MIN_VALUE, Integer.MAX_VALUE}) {
            desk.refused("write " + c + " 0", Check.UNKNOWN);
            desk.refused("write " + c + " 20001", Check.UNKNOWN);
        }
        for (int balance : new int[] {-1, 20001, Integer.MIN_VALUE, Integer.MAX_VALUE}) {
            desk.refused("write 0 " + balance, Check.OUTSIDE);
        }
        desk.due("write 0 0", 1);
        desk.due("write 1 20000", 2);
        desk.due("told 12", 2);
    }

    // 'FULL (15)'; 'THE BOOK (15 at most)'
    private static void writeFull() {
        Desk desk = Desk.of("b0;c500 0 0;");
        for (int k = 1; k <= 15; k++) {
            desk.due("write 0 10000", k);
        }
        desk.refused("write 0 10001", Check.FULL);
        desk.refused("write 0 20001", Check.OUTSIDE);
        desk.refused("write 0 -1", Check.OUTSIDE);
        desk.refused("write 1 20001", Check.UNKNOWN);
        desk.refused("write -1 0", Check.UNKNOWN);
        desk.due("judge", Check.NONE);
        desk.due("tear", 15);
        desk.due("write 0 10001", 1);
        desk.due("judge", 0);
    }

    // 'tells BALANCES, and 10000', at their bounds
    private static void judgeAtTheBounds() {
        Desk desk = Desk.of("b0;c999 99 0;c0 0 99;");
        desk.times(2, "month 60");
        desk.call("write 0 19999");
        desk.call("write 1 1");
        desk.due("judge", Check.NONE);
        desk.call("write 1 0");
        desk.due("judge", 2);
        desk.call("tear");
        desk.call("write 0 20000");
        desk.due("judge", 0);
    }

    // promise 30: 'WRONG: the first that is otherwise now; NONE.'
    private static void judgeFirst() {
        new Desk().due("judge", Check.NONE);
        for (int wrong = 0; wrong < 15; wrong++) {
            Desk desk = Desk.of("b0;c500 0 0;c501 0 0;");
            for (int e = 0; e < 15; e++) {
                desk.call("write " + e % 2 + " " + (10000 + e % 2 + (e == wrong ? 1 : 0)));
            }
            desk.due("judge", wrong);
            // By now: the first one has less, so all his entries are wrong.
            desk.call("spend 0 1");
            desk.due("judge", 0);
            desk.call("undo");
            desk.due("judge", wrong);
            desk.call("spend 1 1");
            desk.due("judge", wrong == 0 ? 0 : 1);
        }
    }

    // promise 29: 'No SPENDINGS, musts, nothing SEEN, THE BOOK is empty: how much all had.'
    private static void tearAll() {
        new Desk().due("tear", 0);
        Desk desk = Desk.of("b500;c500 0 0;t1;");
        desk.due("tear", 0);
        desk.times(5, "spending 1");
        desk.times(4, "must 0 0");
        desk.times(8, "see 0 false");
        desk.times(15, "write 0 0");
        desk.row("told", 9, 5, 4, 8, 15);
        desk.due("tear", 32);
        desk.row("told", 9, 0, 0, 0, 0);
        hasIs(desk, 1000, 9500, 10499);
        desk.due("judge", Check.NONE);
        desk.row("plan 0 1", -1, 1, Check.NONE);
        desk.due("tear", 0);
    }

    // .. and of nothing else
    private static void tearLeavesTheRest() {
        Desk torn = busy();
        Desk never = busy();
        torn.call("spending 5");
        torn.call("must 0 3");
        torn.call("see 0 false");
        torn.call("write 0 10000");
        torn.due("tear", 4);
        torn.alike("all else is as it was behind tear()", never);
    }

    private static Desk busy() {
        Desk desk = Desk.of(Check.HILL);
        desk.call("seed 4");
        desk.call("month 3");
        desk.call("lend 0 1 7");
        desk.call("keep 0");
        desk.call("spend 0 2");
        desk.feed("b");
        return desk;
    }

    // promise 31: 'THE SEED becomes v (0 .. 2147483647): what it was. OUTSIDE.'
    private static void seedBounds() {
        Desk desk = new Desk();
        desk.due("seed 2147483647", 0);
        desk.refused("seed -1", Check.OUTSIDE);
        desk.refused("seed " + Integer.MIN_VALUE, Check.OUTSIDE);
        desk.due("seed 0", 2147483647);
        desk.due("seed 1", 0);
        desk.due("seed 2147483646", 1);
        desk.due("seed 5", 2147483646);
    }

    // 'each DRAW it becomes it times 1103515245 and 12345, left over by 2 to the 31'
    private static void seedDraws() {
        Desk desk = Desk.of("b500;c500 0 0;");
        // Worked out apart from the class: three draws each.
        int[][] want = {{0, 654583775}, {1, 662824084}, {5, 695785320}, {2147483647, 646343466}};
        for (int[] w : want) {
            desk.call("seed " + w[0]);
            desk.call("drift 1");
            desk.due("seed 0", w[1]);
        }
    }

    // promise 32: 'UNKNOWN.'
    private static void keepUnknown() {
        Desk desk = Desk.of("b500;c500 0 0;");
        desk.call("spend 0 1");
        for (int i : new int[] {-1, 2, Integer.MIN_VALUE, Integer.MAX_VALUE}) {
            desk.refused("keep " + i, Check.UNKNOWN);
            desk.refused("goBack " + i, Check.UNKNOWN);
        }
        desk.due("keep 0", 1);
        desk.due("keep 1", 1);
        new Desk().refused("keep 2", Check.UNKNOWN);
    }

    // 'IMAGE i becomes what is so'; 'IMAGES 0, 1 keep these (BALANCES, DEBTS, MONTHS), THE SEED'
    private static void keepWhatIsSo() {
        Desk desk = Desk.of("b500;c500 3 0;c500 0 4;");
        desk.call("keep 0");
        desk.call("month 2");
        desk.call("lend 0 1 5");
        desk.call("seed 9");
        desk.call("keep 1");
        desk.call("month 60");
        desk.call("lend 1 0 50");
        desk.call("seed 10");
        desk.due("goBack 1", 1);
        imageIs(desk, 10001, 9997, 100005, 2, 9);
        desk.due("goBack 0", 1);
        imageIs(desk, 10000, 10000, 100000, 0, 0);
        desk.due("goBack 1", 1);
        imageIs(desk, 10001, 9997, 100005, 2, 9);
        // Kept anew: the later one counts.
        desk.call("spend 0 1");
        desk.due("keep 1", 1);
        desk.call("goBack 0");
        desk.due("goBack 1", 1);
        imageIs(desk, 10000, 9997, 100005, 2, 77);
    }

    private static void imageIs(Desk desk, int first, int second, int debt, int months, int seed) {
        desk.due("customer 0 0", first);
        desk.due("customer 1 0", second);
        desk.due("owes 1 0", debt);
        desk.due("told 4", months);
        desk.due("seed 77", seed);
    }

    // '(nothing can be undone then)'
    private static void keepEndsUndoing() {
        Desk desk = Desk.of("b500;c500 0 0;");
        desk.times(25, "spend 0 1");
        desk.due("keep 0", 1);
        desk.due("told 13", 0);
        desk.refused("undo", Check.NOT);
        desk.due("customer 0 0", 9975);
        desk.times(3, "spend 0 1");
        desk.due("told 13", 3);
        desk.due("goBack 0", 1);
        desk.due("told 13", 0);
        desk.refused("undo", Check.NOT);
        desk.due("customer 0 0", 9975);
        desk.call("spend 0 1");
        desk.due("undo", 0);
        desk.due("customer 0 0", 9975);
    }

    // promise 33: 'NOT: it was not kept'
    private static void goBackNot() {
        new Desk().refused("goBack 0", Check.NOT);
        new Desk().refused("goBack 1", Check.NOT);
        Desk desk = Desk.of("b500;c500 0 0;");
        desk.call("spend 0 1");
        desk.refused("goBack 0", Check.NOT);
        desk.refused("goBack 1", Check.NOT);
        desk.call("keep 1");
        desk.call("spend 0 1");
        desk.refused("goBack 0", Check.NOT);
        desk.due("goBack 1", 1);
        desk.due("customer 0 0", 9999);
        Desk other = Desk.of("b500;c500 0 0;");
        other.call("keep 0");
        other.call("spend 0 1");
        other.refused("goBack 1", Check.NOT);
        other.due("goBack 0", 1);
    }

    // 'images to go on from': an IMAGE stays, whatever is done behind it
    private static void goBackAgain() {
        Desk desk = Desk.of("b500;c500 0 0;c500 0 0;");
        desk.call("keep 0");
        for (int k = 0; k < 3; k++) {
            desk.call("lend 0 1 5");
            desk.call("month 4");
            desk.call("drift 9");
            desk.due("goBack 0", 1);
            desk.due("customer 0 0", 10000);
            desk.due("customer 1 0", 10000);
            desk.due("owes 1 0", 100000);
            desk.due("told 4", 0);
            desk.due("seed 0", 0);
        }
        // THE SEED is kept too: the same wagers come again.
        int hats = desk.call("drift 60");
        int balance = desk.call("customer 0 0");
        desk.call("goBack 0");
        desk.due("drift 60", hats);
        desk.due("customer 0 0", balance);
    }

    // IMAGES keep nothing else: SPENDINGS, musts, what is SEEN, THE BOOK, THE TEXT stay as they are
    private static void goBackLeavesTheRest() {
        Desk desk = Desk.of("b500;c500 0 0;t1;");
        desk.call("keep 0");
        desk.call("spending 3");
        desk.call("must 0 1");
        desk.call("see 0 true");
        desk.call("write 0 10000");
        desk.feed("b500;x");
        desk.due("goBack 0", 1);
        desk.row("told", 9, 1, 1, 1, 1);
        desk.due("has 0", 500);
        desk.due("told 3", 6);
        desk.due("keep 1", 1);
        desk.row("told", 9, 1, 1, 1, 1);
        desk.call("branch");
        desk.due("fault", 5);
        desk.due("goBack 1", 1);
        desk.due("fault", 5);
    }

    // branch(): 'IMAGES .. are gone'; with a FAULT 'all else is as it was'
    private static void imagesEnd() {
        Desk desk = new Desk();
        desk.call("seed 3");
        desk.due("keep 0", 1);
        desk.call("seed 4");
        desk.due("goBack 0", 1);
        desk.due("seed 3", 3);
        desk.tell("x");
        desk.due("goBack 0", 1);
        desk.tell("b500;c600 0 0;");
        desk.refused("goBack 0", Check.NOT);
        desk.call("keep 1");
        desk.call("branch");
        desk.refused("goBack 1", Check.NOT);
    }
}
