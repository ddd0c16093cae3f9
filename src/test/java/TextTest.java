/** Promises 1 to 4: a new object, feed, branch, fault. */
public final class TextTest {
    public static void main(String[] args) {
        newObject();
        feeding();
        goodTexts();
        standing();
        numbers();
        tooOften();
        whatBranchEnds();
        Check.end();
    }

    private static void newObject() {
        BodyAccounts x = new BodyAccounts();
        for (int what = 0; what <= 13; what++) {
            Check.due("new: told(" + what + ")", x.told(what), 0);
        }
        Check.due("new: fault()", x.fault(), Check.NONE);
        Check.due("new: part(0)", x.part(0), Check.UNKNOWN);
        Check.due("new: customer(0, 0)", x.customer(0, 0), Check.UNKNOWN);
        Check.due("new: can(0, 0)", x.can(0, 0), Check.UNKNOWN);
        Check.due("new: month(1)", x.month(1), Check.NOT);
        Check.due("new: seed(3)", x.seed(3), 0);
        Check.due("new: goBack(0)", x.goBack(0), Check.NOT);
    }

    private static void feeding() {
        BodyAccounts x = new BodyAccounts();
        Check.due("feed(-1)", x.feed(-1), Check.OUTSIDE);
        Check.due("feed(256)", x.feed(256), Check.OUTSIDE);
        for (int i = 1; i <= 240; i++) {
            Check.due("feed " + i, x.feed(i % 2 == 0 ? 0 : 255), i);
        }
        Check.due("feed(98) at 240", x.feed(98), Check.FULL);
        Check.due("feed(256) at 240", x.feed(256), Check.OUTSIDE);
        Check.due("told(3) at 240", x.told(3), 240);
        Check.due("branch() of 240", x.branch(), -11);
        Check.due("feed behind branch()", x.feed(98), 1);
        StringBuilder longest = new StringBuilder("b0;");
        while (longest.length() < 240) {
            longest.append(' ');
        }
        Check.reads(longest.toString(), 0, Check.NONE);
    }

    private static void goodTexts() {
        Check.reads("", 0, Check.NONE);
        Check.reads("  ", 0, Check.NONE);
        Check.reads("b0;", 0, Check.NONE);
        Check.reads("b999,0,1,2,3,4,5,6;", 0, Check.NONE);
        Check.reads(" b 007 , 5 ; t 3 ; c 1  2   3 ; ", 1, Check.NONE);
        Check.reads("b1;c999 99 99;c0 0 0;c0 0 0;c0 0 0;c0 0 0;t0;t1;t0;t1;t0;t1;", 5, Check.NONE);
        Check.reads("b1,1,1,1,1,1,1,1;t255;", 0, Check.NONE);
    }

    private static void standing() {
        Check.reads("c0 0 0;", -11, 0);
        Check.reads("t0;", -11, 0);
        Check.reads("  ;", -11, 2);
        Check.reads("1000", -11, 0);
        Check.reads("b", -11, 1);
        Check.reads("b ", -11, 2);
        Check.reads("b;", -11, 1);
        Check.reads("b1", -11, 2);
        Check.reads("b1 ", -11, 3);
        Check.reads("b1,", -11, 3);
        Check.reads("b1,;", -11, 3);
        Check.reads("b1 1;", -11, 3);
        Check.reads("b1 1000;", -11, 3);
        Check.reads("b1,b", -11, 3);
        Check.reads("b1;;", -11, 3);
        Check.reads("b1;,", -11, 3);
        Check.reads("b1;2000", -11, 3);
        Check.reads("b1;x", -11, 3);
        Check.reads("b1;" + (char) 255, -11, 3);
        Check.reads("b1\t;", -11, 2);
        Check.reads("b1,1,1,1,1,1,1,1,", -11, 16);
        Check.reads("b1;c", -11, 4);
        Check.reads("b1;c1 2", -11, 7);
        Check.reads("b1;c1 2;", -11, 7);
        Check.reads("b1;c1,2,3;", -11, 5);
        Check.reads("b1;c1 2 3", -11, 9);
        Check.reads("b1;c1 2 3 4;", -11, 10);
        Check.reads("b1;c1 2 3t1;", -11, 9);
        Check.reads("b1;t", -11, 4);
        Check.reads("b1;t;", -11, 4);
        Check.reads("b1;t1,0;", -11, 5);
        Check.reads("b1;t-1;", -11, 4);
    }

    private static void numbers() {
        Check.reads("b1000;", -12, 1);
        Check.reads("b0000;", -12, 1);
        Check.reads("b1, 12345678901234567890;", -12, 4);
        Check.reads("b1000x", -12, 1);
        Check.reads("b1;c1000 0 0;", -12, 4);
        Check.reads("b1;c100200 3;", -12, 4);
        Check.reads("b1;c0 100 0;", -12, 6);
        Check.reads("b1;c0 99 100;", -12, 9);
        Check.reads("b1;t2;", -12, 4);
        Check.reads("b1,1,1;t 8;", -12, 9);
        Check.reads("b1,1,1,1,1,1,1,1;t256;", -12, 18);
        Check.reads("b1;t0001;", -12, 4);
    }

    private static void tooOften() {
        Check.reads("b1;b", -13, 3);
        Check.reads("b1;c0 0 0; b1;", -13, 11);
        Check.reads("b1;c0 0 0;c0 0 0;c0 0 0;c0 0 0;c0 0 0;c", -13, 38);
        Check.reads("b1;t0;t0;t0;t0;t0;t0;t0;", -13, 21);
        Check.reads("b1;t0;t0;t0;t0;t0;t0;c1 1 1000;t0;", -12, 26);
    }

    private static void whatBranchEnds() {
        BodyAccounts x = Check.of(Check.HILL);
        x.seed(77);
        x.month(2);
        x.lend(0, 1, 5);
        x.keep(1);
        x.spend(0, 5);
        x.spending(4);
        x.must(0, 1);
        x.see(0, true);
        x.write(0, 5);
        Check.due("branch() of nothing", x.branch(), 0);
        for (int what = 0; what <= 13; what++) {
            Check.due("no branch: told(" + what + ")", x.told(what), 0);
        }
        Check.due("no branch: month(1)", x.month(1), Check.NOT);
        Check.due("no branch: drift(1)", x.drift(1), Check.NOT);
        Check.due("no branch: goBack(1)", x.goBack(1), Check.NOT);
        Check.due("no branch: undo()", x.undo(), Check.NOT);
        Check.due("the seed stays", x.seed(0), 77);
        Check.feed(x, "x");
        Check.due("branch() of x", x.branch(), -11);
        Check.due("fault() of x", x.fault(), 0);
        Check.feed(x, Check.HILL);
        Check.due("branch() again", x.branch(), 3);
        Check.due("fault() behind a good text", x.fault(), Check.NONE);
        Check.due("owes(1, 0) anew", x.owes(1, 0), 100000);
        Check.due("customer(0, 0) anew", x.customer(0, 0), 10030);
    }
}
