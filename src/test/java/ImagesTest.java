/** Promises 31 to 33: seed, keep, goBack. */
public final class ImagesTest {
    public static void main(String[] args) {
        seeds();
        images();
        imagesWithoutBranch();
        Check.end();
    }

    private static void seeds() {
        BodyAccounts x = new BodyAccounts();
        Check.due("seed(2147483647)", x.seed(2147483647), 0);
        Check.due("seed(-1)", x.seed(-1), Check.OUTSIDE);
        Check.due("seed(0)", x.seed(0), 2147483647);
        Check.feed(x, "b500;c600 0 0;");
        x.branch();
        x.seed(2147483647);
        x.drift(1);
        long seed = 2147483647L;
        for (int k = 0; k < 3; k++) {
            seed = (seed * 1103515245L + 12345L) % 2147483648L;
        }
        Check.due("the seed behind a wager", x.seed(0), seed);
    }

    private static void images() {
        BodyAccounts x = Check.of(Check.HILL);
        Check.due("keep(2)", x.keep(2), Check.UNKNOWN);
        Check.due("keep(-1)", x.keep(-1), Check.UNKNOWN);
        Check.due("goBack(2)", x.goBack(2), Check.UNKNOWN);
        Check.due("goBack(0)", x.goBack(0), Check.NOT);
        x.month(2);
        x.lend(0, 1, 9);
        x.seed(123);
        Check.due("keep(1)", x.keep(1), 1);
        Check.due("nothing can be undone, kept", x.told(13), 0);
        Check.due("goBack(0), another kept", x.goBack(0), Check.NOT);
        x.spending(5);
        x.drift(9);
        x.month(1);
        Check.due("two can be undone", x.told(13), 2);
        Check.due("goBack(0) refused leaves them", x.goBack(0), Check.NOT);
        Check.due("two can be undone yet", x.told(13), 2);
        Check.due("keep(0)", x.keep(0), 1);
        int later = x.customer(0, 0);
        x.spend(0, 3);
        Check.due("goBack(1)", x.goBack(1), 1);
        Check.due("nothing can be undone, back", x.undo(), Check.NOT);
        Check.due("balance", x.customer(0, 0), 10041);
        Check.due("months", x.told(4), 2);
        Check.due("owes(1, 0)", x.owes(1, 0), 100009);
        Check.due("the seed", x.seed(5), 123);
        Check.due("spendings are not kept", x.told(9), 1);
        Check.due("goBack(0) kept", x.goBack(0), 1);
        Check.due("months later", x.told(4), 3);
        Check.due("balance later", x.customer(0, 0), later);
        Check.due("goBack(1) again", x.goBack(1), 1);
        Check.due("balance again", x.customer(0, 0), 10041);
    }

    private static void imagesWithoutBranch() {
        BodyAccounts x = new BodyAccounts();
        x.seed(8);
        Check.due("keep(0) without a branch", x.keep(0), 1);
        x.seed(9);
        Check.due("goBack(0) without a branch", x.goBack(0), 1);
        Check.due("the seed", x.seed(0), 8);
        Check.feed(x, "b1;;");
        x.branch();
        Check.due("a fault leaves images", x.goBack(0), 1);
        x.branch();
        Check.due("a branch ends images", x.goBack(0), Check.NOT);
    }
}
