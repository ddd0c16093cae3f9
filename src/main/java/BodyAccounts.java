/** A branch where a customer's account is his body: see README.md, and the document's promises 1 to 33. */
public final class BodyAccounts {
    public static final int NONE = -1, UNKNOWN = -1000000001, OUTSIDE = -1000000002, NOT = -1000000003, FULL = -1000000004;

    private static final int BILLION = 1000000000;
    private static final int MOST_LETTERS = 240;
    private static final int MOST_PARTS = 8;
    private static final int MOST_CUSTOMERS = 5;
    private static final int MOST_TASKS = 6;
    private static final int MOST_SPENDINGS = 5;
    private static final int MOST_MUSTS = 4;
    private static final int MOST_SEEN = 8;
    private static final int MOST_ENTRIES = 15;
    private static final int MOST_UNDONE = 20;
    private static final int IMAGES = 2;
    private static final int GREATEST_BALANCE = 9999;
    private static final int GREATEST_DEBT = 9999;
    private static final int GREATEST_LOAN = 9999;
    private static final int GREATEST_SUM = 999;
    private static final int MOST_AT_ONCE = 60;
    private static final int LAST_MONTH_TO_GO_ON = 9000;
    private static final int HAT_HORIZON = 200;
    private static final int PLAN_MONTHS = 4;
    private static final int LEAST_UNKNOWN_BALANCE = -500;
    private static final int GREATEST_UNKNOWN_BALANCE = 499;
    private static final int TEXT_SHIFT = 500;
    private static final int BALANCE_SHIFT = 10000;
    private static final int DEBT_SHIFT = 100000;
    /** Below every balance by more than any sum given away: what a task of no parts needs. */
    private static final int NO_NEED = -100000;

    private final Reader reader;
    private final Standing now;
    private final Past past;
    private final Slate slate;
    private final Planner planner;
    private final Standing[] images;
    private final int[] imageSeeds;
    private final boolean[] imageKept;
    private Branch current;
    private Branch spare;
    private int faultPlace;
    private int seedNow;

    public BodyAccounts() {
        reader = new Reader();
        now = new Standing();
        past = new Past();
        slate = new Slate();
        planner = new Planner();
        images = new Standing[IMAGES];
        for (int i = 0; i < IMAGES; i++) {
            images[i] = new Standing();
        }
        imageSeeds = new int[IMAGES];
        imageKept = new boolean[IMAGES];
        current = new Branch();
        spare = new Branch();
        faultPlace = NONE;
        seedNow = 0;
    }

    // ---- the branch

    public int feed(int letter) {
        if (!within(letter, 0, 255)) {
            return OUTSIDE;
        }
        if (reader.length >= MOST_LETTERS) {
            return FULL;
        }
        reader.append(letter);
        return reader.length;
    }

    public int branch() {
        int number = reader.readInto(spare);
        faultPlace = reader.faultPlace;
        reader.length = 0;
        if (number != 0) {
            return -10 - number;
        }
        // Two branches change places, so that a text with a fault leaves the old one whole.
        Branch old = current;
        current = spare;
        spare = old;
        now.begin(current);
        past.clear();
        slate.clear();
        for (int i = 0; i < IMAGES; i++) {
            imageKept[i] = false;
        }
        return current.customers;
    }

    public int fault() {
        return faultPlace;
    }

    public int told(int what) {
        switch (what) {
            case 0:
                return current.parts;
            case 1:
                return current.customers;
            case 2:
                return current.tasks;
            case 3:
                return reader.length;
            case 4:
                return now.months;
            case 5:
                return hats();
            case 6:
                return wholes(false);
            case 7:
                return cleared();
            case 8:
                return wholes(true);
            case 9:
                return slate.spendings;
            case 10:
                return slate.musts;
            case 11:
                return slate.seen;
            case 12:
                return slate.entries;
            case 13:
                return past.count;
            default:
                return OUTSIDE;
        }
    }

    public int part(int k) {
        return current.hasPart(k) ? current.needs[k] + TEXT_SHIFT : UNKNOWN;
    }

    public int customer(int c, int what) {
        if (!current.hasCustomer(c)) {
            return UNKNOWN;
        }
        switch (what) {
            case 0:
                return now.balances[c] + BALANCE_SHIFT;
            case 1:
                return current.partsAt(now.balances[c]);
            case 2:
                return current.pays[c];
            case 3:
                return current.costs[c];
            case 4:
                return now.netOf(c) + DEBT_SHIFT;
            default:
                return OUTSIDE;
        }
    }

    public int owes(int c, int d) {
        return areTwo(c, d) ? now.debt(c, d) + DEBT_SHIFT : UNKNOWN;
    }

    public int can(int c, int t) {
        if (!current.hasCustomer(c) || !current.hasTask(t)) {
            return UNKNOWN;
        }
        return current.isDoable(t, now.balances[c]) ? 1 : 0;
    }

    // ---- what is done

    public int month(int n) {
        if (!within(n, 1, MOST_AT_ONCE)) {
            return OUTSIDE;
        }
        if (!current.isThere()) {
            return NOT;
        }
        if (now.months > LAST_MONTH_TO_GO_ON) {
            return FULL;
        }
        past.push(now);
        for (int k = 0; k < n; k++) {
            now.passMonth(current);
        }
        return now.months;
    }

    public int spend(int c, int much) {
        if (!current.hasCustomer(c)) {
            return UNKNOWN;
        }
        if (!within(much, 1, GREATEST_SUM)) {
            return OUTSIDE;
        }
        past.push(now);
        now.change(c, -much);
        return current.partsAt(now.balances[c]);
    }

    public int lend(int c, int d, int much) {
        if (!areTwo(c, d)) {
            return UNKNOWN;
        }
        if (!within(much, 1, GREATEST_SUM)) {
            return OUTSIDE;
        }
        if (now.debt(d, c) + much > GREATEST_DEBT) {
            return FULL;
        }
        past.push(now);
        now.hand(c, d, much);
        return current.partsAt(now.balances[d]);
    }

    public int payBack(int c, int d, int much) {
        if (!areTwo(c, d)) {
            return UNKNOWN;
        }
        if (!within(much, 1, GREATEST_SUM)) {
            return OUTSIDE;
        }
        if (now.debt(c, d) < much) {
            return NOT;
        }
        past.push(now);
        now.hand(c, d, much);
        return now.debt(c, d);
    }

    public int drift(int n) {
        if (!within(n, 1, MOST_AT_ONCE)) {
            return OUTSIDE;
        }
        if (!current.isThere()) {
            return NOT;
        }
        past.push(now);
        if (current.customers > 0) {
            for (int k = 0; k < n; k++) {
                wager();
            }
        }
        return hats();
    }

    public int undo() {
        if (past.count == 0) {
            return NOT;
        }
        past.popInto(now);
        return past.count;
    }

    // ---- tried

    public int hat(int c) {
        if (!current.hasCustomer(c)) {
            return UNKNOWN;
        }
        int balance = now.balances[c];
        for (int k = 0; k <= HAT_HORIZON; k++) {
            if (current.partsAt(balance) == 0) {
                return k;
            }
            balance = current.afterMonth(c, balance);
        }
        return NONE;
    }

    public int able(int c, int t, int n) {
        if (!current.hasCustomer(c) || !current.hasTask(t)) {
            return UNKNOWN;
        }
        if (!within(n, 1, MOST_AT_ONCE)) {
            return OUTSIDE;
        }
        int balance = now.balances[c];
        int count = 0;
        for (int k = 0; k < n; k++) {
            if (current.isDoable(t, balance)) {
                count++;
            }
            balance = current.afterMonth(c, balance);
        }
        return count;
    }

    public int spending(int much) {
        if (!within(much, 1, GREATEST_SUM)) {
            return OUTSIDE;
        }
        if (slate.spendings >= MOST_SPENDINGS) {
            return FULL;
        }
        slate.addSpending(much);
        return slate.spendings;
    }

    public int must(int t, int month) {
        if (!current.hasTask(t)) {
            return UNKNOWN;
        }
        if (!within(month, 0, PLAN_MONTHS - 1)) {
            return OUTSIDE;
        }
        if (slate.musts >= MOST_MUSTS) {
            return FULL;
        }
        slate.addMust(t, month);
        return slate.musts;
    }

    public int plan(int c, int n, int i) {
        if (!current.hasCustomer(c)) {
            return UNKNOWN;
        }
        if (!within(n, 1, PLAN_MONTHS) || slate.lastMustMonth() >= n) {
            return OUTSIDE;
        }
        boolean found = planner.find(current, slate, c, now.balances[c], n);
        if (i == NONE) {
            return found ? 1 : 0;
        }
        return found && within(i, 0, slate.spendings - 1) ? planner.given[i] : NONE;
    }

    public int asOne(int t, int i) {
        if (!current.hasTask(t)) {
            return UNKNOWN;
        }
        int count = 0;
        for (int c = 0; c < current.customers; c++) {
            for (int d = c + 1; d < current.customers; d++) {
                if (isDoableOnlyAsOne(t, c, d)) {
                    if (count == i) {
                        return 10 * c + d;
                    }
                    count++;
                }
            }
        }
        return i == NONE ? count : NONE;
    }

    public int loan(int c, int t, int what) {
        if (!current.hasCustomer(c) || !current.hasTask(t)) {
            return UNKNOWN;
        }
        if (!within(what, 0, 1)) {
            return OUTSIDE;
        }
        int over = now.balances[c] - current.needOf(t);
        if (what == 1) {
            return over < 0 ? NONE : Math.min(over, GREATEST_LOAN);
        }
        if (over >= 0) {
            return 0;
        }
        return -over <= GREATEST_LOAN ? -over : NONE;
    }

    public int order(int i) {
        for (int k = 0; k < current.parts; k++) {
            if (current.goneAheadOf(k) == i) {
                return k;
            }
        }
        return NONE;
    }

    public int wage(int n, int q) {
        if (!within(n, 0, MOST_AT_ONCE) || !within(q, 0, 100)) {
            return OUTSIDE;
        }
        long odds = BILLION;
        for (int k = 0; k < n; k++) {
            odds = odds * (100 - q) / 100;
        }
        return (int) odds;
    }

    // ---- what is seen

    public int see(int k, boolean there) {
        if (!current.hasPart(k)) {
            return UNKNOWN;
        }
        if (slate.seen >= MOST_SEEN) {
            return FULL;
        }
        slate.addSeen(k, there);
        return slate.seen;
    }

    public int has(int what) {
        if (!within(what, 0, 2)) {
            return OUTSIDE;
        }
        int least = slate.leastSeen(current);
        int greatest = slate.greatestSeen(current);
        int count = Math.max(0, greatest - least + 1);
        if (what == 0) {
            return count;
        }
        if (count == 0) {
            return NONE;
        }
        return (what == 1 ? least : greatest) + BALANCE_SHIFT;
    }

    public int look() {
        int least = slate.leastSeen(current);
        int greatest = slate.greatestSeen(current);
        int best = NONE;
        int bestAlike = greatest - least + 1;
        for (int k = 0; k < current.parts; k++) {
            // A part parts them only if it is there by some of these balances and not by others.
            int without = current.needs[k] - least;
            int with = greatest - current.needs[k] + 1;
            int alike = Math.max(without, with);
            if (without > 0 && with > 0 && alike < bestAlike) {
                best = k;
                bestAlike = alike;
            }
        }
        return best;
    }

    public int write(int c, int balance) {
        if (!current.hasCustomer(c)) {
            return UNKNOWN;
        }
        if (!within(balance, 0, 2 * BALANCE_SHIFT)) {
            return OUTSIDE;
        }
        if (slate.entries >= MOST_ENTRIES) {
            return FULL;
        }
        slate.addEntry(c, balance - BALANCE_SHIFT);
        return slate.entries;
    }

    public int tear() {
        int all = slate.countAll();
        slate.clear();
        return all;
    }

    public int judge() {
        for (int e = 0; e < slate.entries; e++) {
            int c = slate.entryCustomers[e];
            if (current.hasCustomer(c) && now.balances[c] != slate.entryBalances[e]) {
                return e;
            }
        }
        return NONE;
    }

    // ---- draws, images

    public int seed(int v) {
        if (v < 0) {
            return OUTSIDE;
        }
        int old = seedNow;
        seedNow = v;
        return old;
    }

    public int keep(int i) {
        if (!within(i, 0, IMAGES - 1)) {
            return UNKNOWN;
        }
        images[i].copyFrom(now);
        imageSeeds[i] = seedNow;
        imageKept[i] = true;
        past.clear();
        return 1;
    }

    public int goBack(int i) {
        if (!within(i, 0, IMAGES - 1)) {
            return UNKNOWN;
        }
        if (!imageKept[i]) {
            return NOT;
        }
        now.copyFrom(images[i]);
        seedNow = imageSeeds[i];
        past.clear();
        return 1;
    }

    // ---- what several calls need

    private static boolean within(int number, int least, int greatest) {
        return number >= least && number <= greatest;
    }

    private static int bounded(int balance) {
        return Math.max(-GREATEST_BALANCE, Math.min(GREATEST_BALANCE, balance));
    }

    private boolean areTwo(int c, int d) {
        return current.hasCustomer(c) && current.hasCustomer(d) && c != d;
    }

    private int hats() {
        int set = 0;
        for (int c = 0; c < current.customers; c++) {
            if (current.partsAt(now.balances[c]) == 0) {
                set |= 1 << c;
            }
        }
        return set;
    }

    private int wholes(boolean allPaid) {
        int set = 0;
        for (int c = 0; c < current.customers; c++) {
            int balance = now.balances[c] + (allPaid ? now.netOf(c) : 0);
            if (current.partsAt(bounded(balance)) == current.allParts()) {
                set |= 1 << c;
            }
        }
        return set;
    }

    private int cleared() {
        int count = 0;
        for (int c = 0; c < current.customers; c++) {
            if (now.netOf(c) < 0) {
                count++;
            }
        }
        return count;
    }

    private boolean isDoableOnlyAsOne(int t, int c, int d) {
        int first = now.balances[c];
        int second = now.balances[d];
        return !current.isDoable(t, first) && !current.isDoable(t, second)
            && current.isDoable(t, bounded(first + second));
    }

    private int draw(int n) {
        seedNow = (int) ((seedNow * 1103515245L + 12345L) & 0x7fffffffL);
        return n > 0 ? seedNow / 65536 % n : 0;
    }

    private void wager() {
        int c = draw(current.customers);
        int stake = draw(100);
        now.change(c, draw(2) == 0 ? -stake : stake);
    }

    /** Parts, customers and tasks as the text tells them; balances already less 500. */
    private static final class Branch {
        final int[] needs = new int[MOST_PARTS];
        final int[] starts = new int[MOST_CUSTOMERS];
        final int[] pays = new int[MOST_CUSTOMERS];
        final int[] costs = new int[MOST_CUSTOMERS];
        final int[] takes = new int[MOST_TASKS];
        int parts;
        int customers;
        int tasks;

        void clear() {
            parts = 0;
            customers = 0;
            tasks = 0;
        }

        void addPart(int told) {
            if (parts < MOST_PARTS) {
                needs[parts] = told - TEXT_SHIFT;
                parts++;
            }
        }

        void addCustomer(int told, int pay, int cost) {
            if (customers < MOST_CUSTOMERS) {
                starts[customers] = told - TEXT_SHIFT;
                pays[customers] = pay;
                costs[customers] = cost;
                customers++;
            }
        }

        void addTask(int set) {
            if (tasks < MOST_TASKS) {
                takes[tasks] = set;
                tasks++;
            }
        }

        boolean isThere() {
            return parts > 0;
        }

        boolean hasPart(int k) {
            return within(k, 0, parts - 1);
        }

        boolean hasCustomer(int c) {
            return within(c, 0, customers - 1);
        }

        boolean hasTask(int t) {
            return within(t, 0, tasks - 1);
        }

        int allParts() {
            return (1 << parts) - 1;
        }

        int partsAt(int balance) {
            int set = 0;
            for (int k = 0; k < parts; k++) {
                if (needs[k] <= balance) {
                    set |= 1 << k;
                }
            }
            return set;
        }

        boolean isDoable(int t, int balance) {
            return balance >= needOf(t);
        }

        /** The least balance by which all parts of the task are there. */
        int needOf(int t) {
            int need = NO_NEED;
            for (int k = 0; k < parts; k++) {
                if ((takes[t] >> k & 1) == 1) {
                    need = Math.max(need, needs[k]);
                }
            }
            return need;
        }

        int afterMonth(int c, int balance) {
            return bounded(bounded(balance + pays[c]) - costs[c]);
        }

        /** How many parts go earlier than this one, if one gets poorer. */
        int goneAheadOf(int k) {
            int count = 0;
            for (int j = 0; j < parts; j++) {
                if (needs[j] > needs[k] || needs[j] == needs[k] && j < k) {
                    count++;
                }
            }
            return count;
        }
    }

    /** The text, and the way from it to a branch or to its first fault. */
    private static final class Reader {
        private static final int CANNOT_STAND = 1;
        private static final int BAD_NUMBER = 2;
        private static final int TOO_OFTEN = 3;

        final int[] letters = new int[MOST_LETTERS];
        int length;
        int faultPlace = NONE;
        private int faultNumber;
        private int place;

        void append(int letter) {
            if (length < MOST_LETTERS) {
                letters[length] = letter;
                length++;
            }
        }

        /** The number of the fault, 0 if there is none. */
        int readInto(Branch branch) {
            branch.clear();
            place = 0;
            faultNumber = 0;
            faultPlace = NONE;
            skipBlanks();
            // A clause has one letter at least, so this ends by itself; the counter only shows it.
            for (int k = 0; k < MOST_LETTERS && place < length && faultNumber == 0; k++) {
                readClause(branch);
                skipBlanks();
            }
            return faultNumber;
        }

        private void readClause(Branch branch) {
            int word = letter();
            if (word == 'b' && !branch.isThere()) {
                place++;
                readParts(branch);
            } else if (!branch.isThere() || word != 'b' && word != 'c' && word != 't') {
                fail(CANNOT_STAND, place);
            } else if (word == 'c' && branch.customers < MOST_CUSTOMERS) {
                place++;
                readCustomer(branch);
            } else if (word == 't' && branch.tasks < MOST_TASKS) {
                place++;
                branch.addTask(readNumber(branch.allParts()));
                readWord(';');
            } else {
                fail(TOO_OFTEN, place);
            }
        }

        private void readParts(Branch branch) {
            branch.addPart(readNumber(GREATEST_SUM));
            skipBlanks();
            for (int k = 1; k < MOST_PARTS && faultNumber == 0 && letter() == ','; k++) {
                place++;
                branch.addPart(readNumber(GREATEST_SUM));
                skipBlanks();
            }
            readWord(';');
        }

        private void readCustomer(Branch branch) {
            int told = readNumber(GREATEST_SUM);
            int pay = readNumber(99);
            int cost = readNumber(99);
            branch.addCustomer(told, pay, cost);
            readWord(';');
        }

        private int readNumber(int greatest) {
            skipBlanks();
            int first = place;
            int value = 0;
            while (place < length && isFigure(letter())) {
                // More than three figures are a fault whatever they are worth: no need to count on.
                if (place - first < 3) {
                    value = value * 10 + letter() - '0';
                }
                place++;
            }
            if (place == first) {
                fail(CANNOT_STAND, first);
            } else if (place - first > 3 || value > greatest) {
                fail(BAD_NUMBER, first);
            }
            return value;
        }

        private void readWord(int word) {
            skipBlanks();
            if (letter() == word) {
                place++;
            } else {
                fail(CANNOT_STAND, place);
            }
        }

        private void skipBlanks() {
            while (place < length && letter() == ' ') {
                place++;
            }
        }

        /** The letter here, NONE at the end of the text. */
        private int letter() {
            return place >= 0 && place < length && place < MOST_LETTERS ? letters[place] : NONE;
        }

        private static boolean isFigure(int letter) {
            return letter >= '0' && letter <= '9';
        }

        /** Only the first fault counts: what is read behind it has lost its place. */
        private void fail(int number, int where) {
            if (faultNumber == 0) {
                faultNumber = number;
                faultPlace = where;
            }
        }
    }

    /** What changes by months, sums and wagers, and can be undone and kept. */
    private static final class Standing {
        final int[] balances = new int[MOST_CUSTOMERS];
        /** One row of all pairs: what c owes d stands at c times the most customers and d; the pair turned has it below 0. */
        final int[] debts = new int[MOST_CUSTOMERS * MOST_CUSTOMERS];
        int months;

        void begin(Branch branch) {
            for (int c = 0; c < MOST_CUSTOMERS; c++) {
                balances[c] = c < branch.customers ? branch.starts[c] : 0;
            }
            for (int k = 0; k < debts.length; k++) {
                debts[k] = 0;
            }
            months = 0;
        }

        void copyFrom(Standing other) {
            System.arraycopy(other.balances, 0, balances, 0, MOST_CUSTOMERS);
            System.arraycopy(other.debts, 0, debts, 0, debts.length);
            months = other.months;
        }

        void change(int c, int sum) {
            balances[c] = bounded(balances[c] + sum);
        }

        void passMonth(Branch branch) {
            for (int c = 0; c < branch.customers; c++) {
                balances[c] = branch.afterMonth(c, balances[c]);
            }
            months++;
        }

        int debt(int c, int d) {
            return debts[c * MOST_CUSTOMERS + d];
        }

        /** A sum goes from c to d: lent or paid back, either way d owes c so much more than before. */
        void hand(int c, int d, int sum) {
            change(c, -sum);
            change(d, sum);
            debts[c * MOST_CUSTOMERS + d] -= sum;
            debts[d * MOST_CUSTOMERS + c] += sum;
        }

        int netOf(int c) {
            int net = 0;
            for (int d = 0; d < MOST_CUSTOMERS; d++) {
                net += debt(d, c);
            }
            return net;
        }
    }

    /** The standings to undo to, in a ring: the oldest gives its place up. */
    private static final class Past {
        private final Standing[] ring = new Standing[MOST_UNDONE];
        private int next;
        int count;

        Past() {
            for (int k = 0; k < MOST_UNDONE; k++) {
                ring[k] = new Standing();
            }
        }

        void clear() {
            count = 0;
        }

        void push(Standing standing) {
            ring[next].copyFrom(standing);
            next = (next + 1) % MOST_UNDONE;
            count = Math.min(count + 1, MOST_UNDONE);
        }

        void popInto(Standing standing) {
            if (count > 0) {
                next = (next + MOST_UNDONE - 1) % MOST_UNDONE;
                standing.copyFrom(ring[next]);
                count--;
            }
        }
    }

    /** What is told beside the branch, until it is torn: spendings, musts, what is seen, the book. */
    private static final class Slate {
        final int[] sums = new int[MOST_SPENDINGS];
        final int[] mustTasks = new int[MOST_MUSTS];
        final int[] mustMonths = new int[MOST_MUSTS];
        final int[] seenParts = new int[MOST_SEEN];
        final boolean[] seenThere = new boolean[MOST_SEEN];
        final int[] entryCustomers = new int[MOST_ENTRIES];
        final int[] entryBalances = new int[MOST_ENTRIES];
        int spendings;
        int musts;
        int seen;
        int entries;

        void clear() {
            spendings = 0;
            musts = 0;
            seen = 0;
            entries = 0;
        }

        int countAll() {
            return spendings + musts + seen + entries;
        }

        void addSpending(int much) {
            if (spendings < MOST_SPENDINGS) {
                sums[spendings] = much;
                spendings++;
            }
        }

        void addMust(int t, int month) {
            if (musts < MOST_MUSTS) {
                mustTasks[musts] = t;
                mustMonths[musts] = month;
                musts++;
            }
        }

        void addSeen(int k, boolean there) {
            if (seen < MOST_SEEN) {
                seenParts[seen] = k;
                seenThere[seen] = there;
                seen++;
            }
        }

        void addEntry(int c, int balance) {
            if (entries < MOST_ENTRIES) {
                entryCustomers[entries] = c;
                entryBalances[entries] = balance;
                entries++;
            }
        }

        int lastMustMonth() {
            int last = NONE;
            for (int m = 0; m < musts; m++) {
                last = Math.max(last, mustMonths[m]);
            }
            return last;
        }

        // A part seen cuts the balances at one place, so all that fits lies side by side: its two ends tell it.

        int leastSeen(Branch branch) {
            int least = LEAST_UNKNOWN_BALANCE;
            for (int s = 0; s < seen; s++) {
                if (seenThere[s]) {
                    least = Math.max(least, branch.needs[seenParts[s]]);
                }
            }
            return least;
        }

        int greatestSeen(Branch branch) {
            int greatest = GREATEST_UNKNOWN_BALANCE;
            for (int s = 0; s < seen; s++) {
                if (!seenThere[s]) {
                    greatest = Math.min(greatest, branch.needs[seenParts[s]] - 1);
                }
            }
            return greatest;
        }
    }

    /** Looks for the first way to give spendings to months. */
    private static final class Planner {
        final int[] given = new int[MOST_SPENDINGS];

        boolean find(Branch branch, Slate slate, int c, int balance, int n) {
            int ways = 1;
            for (int s = 0; s < slate.spendings; s++) {
                ways *= n;
            }
            for (int way = 0; way < ways; way++) {
                give(way, slate.spendings, n);
                if (works(branch, slate, c, balance, n)) {
                    return true;
                }
            }
            return false;
        }

        /** The way's figures to the base n: the last spending's month changes soonest, so the first way found is the least. */
        private void give(int way, int spendings, int n) {
            int rest = way;
            for (int s = spendings - 1; s >= 0; s--) {
                given[s] = n > 0 ? rest % n : 0;
                rest = n > 0 ? rest / n : 0;
            }
        }

        private boolean works(Branch branch, Slate slate, int c, int balance, int n) {
            int left = balance;
            for (int month = 0; month < n; month++) {
                if (month > 0) {
                    left = branch.afterMonth(c, left);
                }
                left = bounded(left - sumGivenTo(month, slate));
                if (!isAllDoable(month, left, branch, slate)) {
                    return false;
                }
            }
            return true;
        }

        private int sumGivenTo(int month, Slate slate) {
            int sum = 0;
            for (int s = 0; s < slate.spendings; s++) {
                if (given[s] == month) {
                    sum += slate.sums[s];
                }
            }
            return sum;
        }

        private static boolean isAllDoable(int month, int balance, Branch branch, Slate slate) {
            for (int m = 0; m < slate.musts; m++) {
                if (slate.mustMonths[m] == month && !branch.isDoable(slate.mustTasks[m], balance)) {
                    return false;
                }
            }
            return true;
        }
    }
}
