/** Promises 25 to 30: see, has, look, write, tear, judge. */
public final class SeenTest {
    public static void main(String[] args) {
        seeing();
        edges();
        looking();
        book();
        tearing();
        Check.end();
    }

    private static void hasIs(BodyAccounts x, int count, int least, int greatest) {
        Check.due("has(0)", x.has(0), count);
        Check.due("has(1)", x.has(1), least);
        Check.due("has(2)", x.has(2), greatest);
    }

    private static void seeing() {
        BodyAccounts x = Check.of(Check.HILL);
        hasIs(x, 1000, 9500, 10499);
        Check.due("see(5, true)", x.see(5, true), Check.UNKNOWN);
        Check.due("see(-1, true)", x.see(-1, true), Check.UNKNOWN);
        Check.due("see(1, true)", x.see(1, true), 1);
        hasIs(x, 480, 10020, 10499);
        Check.due("see(3, false)", x.see(3, false), 2);
        hasIs(x, 80, 10020, 10099);
        Check.due("see(2, false)", x.see(2, false), 3);
        hasIs(x, 0, Check.NONE, Check.NONE);
        for (int k = 4; k <= 8; k++) {
            Check.due("see(0, true)", x.see(0, true), k);
        }
        Check.due("see(0, true), a ninth", x.see(0, true), Check.FULL);
        Check.due("see(5, true), a ninth", x.see(5, true), Check.UNKNOWN);
        Check.due("has(3)", x.has(3), Check.OUTSIDE);
        Check.due("has(-1)", x.has(-1), Check.OUTSIDE);
    }

    private static void edges() {
        BodyAccounts x = Check.of("b0,999,1;");
        x.see(0, true);
        hasIs(x, 1000, 9500, 10499);
        x.see(2, false);
        hasIs(x, 1, 9500, 9500);
        Check.due("look() at one", x.look(), Check.NONE);
        x.tear();
        x.see(1, true);
        hasIs(x, 1, 10499, 10499);
        x.tear();
        x.see(0, false);
        hasIs(x, 0, Check.NONE, Check.NONE);
        Check.due("look() at none", x.look(), Check.NONE);
    }

    private static void looking() {
        Check.due("look() without a branch", new BodyAccounts().look(), Check.NONE);
        Check.due("look() by what all have", Check.of("b0,0;").look(), Check.NONE);
        Check.due("look() by a little", Check.of("b0,1;").look(), 1);
        BodyAccounts x = Check.of("b100,900,450,550,450;");
        Check.due("look(), 550 alike by two", x.look(), 2);
        x.see(2, true);
        Check.due("look() above 450", x.look(), 1);
        x.see(1, false);
        Check.due("look() between", x.look(), 3);
        x.see(3, true);
        Check.due("look() at the last", x.look(), Check.NONE);
    }

    private static void book() {
        BodyAccounts x = Check.of(Check.HILL);
        Check.due("judge() of nothing", x.judge(), Check.NONE);
        Check.due("write(3, -1)", x.write(3, -1), Check.UNKNOWN);
        Check.due("write(0, -1)", x.write(0, -1), Check.OUTSIDE);
        Check.due("write(0, 20001)", x.write(0, 20001), Check.OUTSIDE);
        Check.due("write(0, 10030)", x.write(0, 10030), 1);
        Check.due("write(2, 10110)", x.write(2, 10110), 2);
        Check.due("write(1, 9980)", x.write(1, 9980), 3);
        Check.due("judge()", x.judge(), Check.NONE);
        x.spend(1, 1);
        Check.due("judge() of 1", x.judge(), 2);
        x.spend(2, 1);
        Check.due("judge() of 2", x.judge(), 1);
        x.undo();
        x.undo();
        Check.due("judge() undone", x.judge(), Check.NONE);
        Check.due("write(0, 0)", x.write(0, 0), 4);
        Check.due("judge() of the least", x.judge(), 3);
        Check.due("write(0, 20000)", x.write(0, 20000), 5);
        for (int k = 6; k <= 15; k++) {
            Check.due("write " + k, x.write(0, 5), k);
        }
        Check.due("write(0, 5), a sixteenth", x.write(0, 5), Check.FULL);
        Check.due("write(0, 20001), a sixteenth", x.write(0, 20001), Check.OUTSIDE);
        Check.due("write(3, 5), a sixteenth", x.write(3, 5), Check.UNKNOWN);
    }

    private static void tearing() {
        BodyAccounts x = Check.of(Check.HILL);
        Check.due("tear() of nothing", x.tear(), 0);
        x.month(1);
        x.spending(1);
        x.must(0, 0);
        x.must(0, 1);
        x.see(0, true);
        x.see(0, true);
        x.see(0, false);
        for (int k = 0; k < 4; k++) {
            x.write(0, k);
        }
        Check.due("tear()", x.tear(), 10);
        for (int what = 9; what <= 12; what++) {
            Check.due("told(" + what + ") torn", x.told(what), 0);
        }
        Check.due("has(0) torn", x.has(0), 1000);
        Check.due("judge() torn", x.judge(), Check.NONE);
        Check.due("months stay", x.told(4), 1);
        Check.due("what can be undone stays", x.told(13), 1);
    }
}
