import java.util.Random;

/** All promises: long runs of calls at random, each answer held against the model's. */
public final class StormTest {
    private static final int[] EXTREMES = {Integer.MIN_VALUE, Integer.MAX_VALUE, -1000000, 1000000, -2, -1, 0, 1};
    private static final String LETTERS = "bct,;  0123456789x";
    private final Random random;
    private BodyAccounts real;
    private Model model;
    private String run;
    private int calls;
    private boolean oneBranch;
    /** Great sums between two, so that balances and debts come to their bounds. */
    private boolean heavy;

    private StormTest(long seed) {
        random = new Random(seed);
    }

    public static void main(String[] args) {
        StormTest storm = new StormTest(20261118);
        for (int k = 0; k < 20000; k++) {
            storm.readText(k);
        }
        for (int k = 0; k < 3000; k++) {
            storm.run(k);
        }
        Check.end();
    }

    private void readText(int k) {
        begin("text " + k);
        String text = text();
        for (int e = random.nextInt(4); e > 0 && !text.isEmpty(); e--) {
            text = spoiled(text);
        }
        tell(text);
    }

    private void run(int k) {
        begin("run " + k);
        if (k % 20 != 0) {
            tell(text());
        }
        oneBranch = k % 2 == 0;
        heavy = k % 3 == 0;
        // No object is asked more than the document promises: 512 calls, of which a new text may take some 300.
        while (calls < (oneBranch ? 490 : 190)) {
            callOne(random.nextInt(100));
        }
        for (int what = 0; what <= 13; what++) {
            same("told " + what, real.told(what), model.told(what));
        }
        Check.due(run + ": calls on one object", Math.max(512, calls), 512);
    }

    private void begin(String name) {
        run = name;
        calls = 0;
        real = new BodyAccounts();
        model = new Model();
    }

    private void same(String call, int got, int want) {
        calls++;
        Check.due(run + ": " + call, got, want);
    }

    private void tell(String text) {
        for (int i = 0; i < text.length(); i++) {
            same("feed", real.feed(text.charAt(i)), model.feed(text.charAt(i)));
        }
        same("branch of '" + text + "'", real.branch(), model.branch());
        same("fault of '" + text + "'", real.fault(), model.fault());
    }

    private String blank() {
        return random.nextInt(9) == 0 ? " " : "";
    }

    private int told(int most) {
        // Needs and balances close to one another, so that parts come and go.
        return random.nextInt(3) == 0 ? random.nextInt(most + 1) : Math.min(most, 450 + random.nextInt(100));
    }

    private String text() {
        StringBuilder text = new StringBuilder(blank()).append('b').append(blank()).append(told(999));
        int parts = 1 + random.nextInt(8);
        for (int k = 1; k < parts; k++) {
            text.append(blank()).append(',').append(blank()).append(told(999));
        }
        text.append(';');
        int customers = random.nextInt(6);
        int tasks = random.nextInt(7);
        while (customers + tasks > 0) {
            if (random.nextInt(customers + tasks) < customers) {
                text.append("c").append(blank()).append(told(999)).append(' ').append(random.nextInt(100)).append(' ')
                    .append(blank()).append(random.nextInt(100)).append(blank()).append(';').append(blank());
                customers--;
            } else {
                text.append('t').append(random.nextInt(1 << parts)).append(blank()).append(';');
                tasks--;
            }
        }
        return text.toString();
    }

    private String spoiled(String text) {
        int at = random.nextInt(text.length() + 1);
        String ahead = text.substring(0, at);
        String letter = "" + LETTERS.charAt(random.nextInt(LETTERS.length()));
        switch (random.nextInt(5)) {
            case 0:
                return ahead + letter + text.substring(at);
            case 1:
                return ahead + text.substring(Math.min(text.length(), at + 1));
            case 2:
                return ahead + letter + text.substring(Math.min(text.length(), at + 1));
            case 3:
                return ahead;
            default:
                return text + text.substring(at);
        }
    }

    /** Mostly within 0 to most, sometimes just beyond, seldom far beyond. */
    private int near(int most) {
        int dice = random.nextInt(30);
        if (dice == 0) {
            return EXTREMES[random.nextInt(EXTREMES.length)];
        }
        return dice < 4 ? most + 1 : dice == 4 ? -1 : random.nextInt(most + 1);
    }

    private int who() {
        return random.nextInt(25) == 0 ? near(5) : random.nextInt(Math.max(1, Math.min(heavy ? 2 : 5, model.told(1))));
    }

    private int task() {
        return random.nextInt(25) == 0 ? near(6) : random.nextInt(Math.max(1, model.told(2)));
    }

    private int sum() {
        if (heavy && random.nextInt(3) > 0) {
            return 900 + random.nextInt(101);
        }
        return random.nextInt(2) == 0 ? near(60) : near(999);
    }

    private void callOne(int kind) {
        if (kind < 40) {
            doOne(kind % 10);
        } else if (kind < 75) {
            tryOne(kind % 9);
        } else if (kind < 98) {
            seeOne(kind % 9);
        } else {
            turnOver(random.nextInt(oneBranch ? 6 : 8));
        }
    }

    private void doOne(int kind) {
        int c = who();
        int d = who();
        int much = sum();
        switch (kind) {
            case 0:
                same("month " + much, real.month(much), model.month(much));
                break;
            case 1:
            case 2:
                same("spend " + c + " " + much, real.spend(c, much), model.spend(c, much));
                break;
            case 3:
            case 4:
            case 5:
                same("lend " + c + " " + d + " " + much, real.lend(c, d, much), model.lend(c, d, much));
                break;
            case 6:
            case 7:
                same("payBack " + c + " " + d + " " + much, real.payBack(c, d, much), model.payBack(c, d, much));
                break;
            case 8:
                same("drift " + much, real.drift(much), model.drift(much));
                break;
            default:
                same("undo", real.undo(), model.undo());
                break;
        }
        same("balance of " + c, real.customer(c, 0), model.customer(c, 0));
    }

    private void tryOne(int kind) {
        int c = who();
        int t = task();
        int n = near(random.nextBoolean() ? 4 : 60);
        int i = near(5) - 1;
        switch (kind) {
            case 0:
                same("hat " + c, real.hat(c), model.hat(c));
                break;
            case 1:
                same("able " + c + " " + t + " " + n, real.able(c, t, n), model.able(c, t, n));
                break;
            case 2:
                same("spending", real.spending(n), model.spending(n));
                break;
            case 3:
                same("must " + t + " " + i, real.must(t, i), model.must(t, i));
                break;
            case 4:
                int months = 1 + random.nextInt(4);
                same("plan " + c + " " + n + " " + i, real.plan(c, n, i), model.plan(c, n, i));
                same("plan " + c + " " + months + " " + i, real.plan(c, months, i), model.plan(c, months, i));
                break;
            case 5:
                same("asOne " + t + " " + i, real.asOne(t, i), model.asOne(t, i));
                break;
            case 6:
                int what = near(1);
                same("loan " + c + " " + t + " " + what, real.loan(c, t, what), model.loan(c, t, what));
                break;
            case 7:
                same("order " + i, real.order(i), model.order(i));
                break;
            default:
                int q = near(100);
                same("wage " + n + " " + q, real.wage(n, q), model.wage(n, q));
                break;
        }
    }

    private void seeOne(int kind) {
        int c = who();
        int k = near(7);
        switch (kind) {
            case 0:
                boolean there = random.nextBoolean();
                same("see " + k + " " + there, real.see(k, there), model.see(k, there));
                break;
            case 1:
                same("has " + k % 3, real.has(k % 3), model.has(k % 3));
                break;
            case 2:
                same("look", real.look(), model.look());
                break;
            case 3:
                int balance = random.nextInt(4) == 0 ? near(20000) : Math.max(0, model.customer(c, 0));
                same("write " + c + " " + balance, real.write(c, balance), model.write(c, balance));
                break;
            case 4:
                same("judge", real.judge(), model.judge());
                break;
            case 5:
                int what = near(13);
                same("told " + what, real.told(what), model.told(what));
                break;
            case 6:
                same("part " + k, real.part(k), model.part(k));
                same("can " + c + " " + k, real.can(c, k), model.can(c, k));
                break;
            case 7:
                int d = who();
                same("owes " + c + " " + d, real.owes(c, d), model.owes(c, d));
                break;
            default:
                int which = near(4);
                same("customer " + c + " " + which, real.customer(c, which), model.customer(c, which));
                break;
        }
    }

    private void turnOver(int kind) {
        int i = near(1);
        switch (kind) {
            case 0:
                same("tear", real.tear(), model.tear());
                break;
            case 1:
                int v = random.nextInt();
                same("seed " + v, real.seed(v), model.seed(v));
                break;
            case 2:
            case 3:
                same("keep " + i, real.keep(i), model.keep(i));
                break;
            case 4:
            case 5:
                same("goBack " + i, real.goBack(i), model.goBack(i));
                break;
            case 6:
                tell(spoiled(text()));
                break;
            default:
                int letter = near(255);
                same("feed " + letter, real.feed(letter), model.feed(letter));
                break;
        }
    }
}
