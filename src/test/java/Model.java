import java.util.ArrayDeque;
import java.util.ArrayList;
import java.util.Arrays;
import java.util.Deque;
import java.util.List;

/** The document again, by other ways than the class goes: everything tried out, nothing reckoned ahead. */
final class Model {
    static final int NONE = -1, UNKNOWN = -1000000001, OUTSIDE = -1000000002, NOT = -1000000003, FULL = -1000000004;

    /** Balances, debts (what the first owes the second, never below 0) and months. */
    private static final class State {
        int[] balance = new int[0];
        int[][] owed = new int[0][0];
        int months = 0;

        State copy() {
            State s = new State();
            s.balance = balance.clone();
            s.owed = new int[owed.length][];
            for (int c = 0; c < owed.length; c++) {
                s.owed[c] = owed[c].clone();
            }
            s.months = months;
            return s;
        }
    }

    private final StringBuilder text = new StringBuilder();
    private List<Integer> parts = new ArrayList<>();
    private List<int[]> customers = new ArrayList<>();
    private List<Integer> tasks = new ArrayList<>();
    private State state = new State();
    private final Deque<State> past = new ArrayDeque<>();
    private final State[] image = new State[2];
    private final long[] imageSeed = new long[2];
    private long seed = 0;
    private int fault = NONE;
    private final List<Integer> spendings = new ArrayList<>();
    private final List<int[]> musts = new ArrayList<>();
    private final List<int[]> seen = new ArrayList<>();
    private final List<int[]> book = new ArrayList<>();

    int feed(int letter) {
        if (letter < 0 || letter > 255) {
            return OUTSIDE;
        }
        if (text.length() == 240) {
            return FULL;
        }
        text.append((char) letter);
        return text.length();
    }

    int branch() {
        ModelText read = new ModelText(text.toString());
        text.setLength(0);
        fault = read.fault == 0 ? NONE : read.place;
        if (read.fault != 0) {
            return -10 - read.fault;
        }
        parts = read.parts;
        customers = read.customers;
        tasks = read.tasks;
        state = new State();
        state.balance = new int[customers.size()];
        state.owed = new int[customers.size()][customers.size()];
        for (int c = 0; c < customers.size(); c++) {
            state.balance[c] = customers.get(c)[0] - 500;
        }
        past.clear();
        Arrays.fill(image, null);
        tear();
        return customers.size();
    }

    int fault() {
        return fault;
    }

    private boolean isCustomer(int c) {
        return c >= 0 && c < customers.size();
    }

    private boolean isTask(int t) {
        return t >= 0 && t < tasks.size();
    }

    private boolean isPart(int k) {
        return k >= 0 && k < parts.size();
    }

    private boolean isThere(int k, int balance) {
        return balance >= parts.get(k) - 500;
    }

    private int set(int balance) {
        int set = 0;
        for (int k = 0; k < parts.size(); k++) {
            set += isThere(k, balance) ? 1 << k : 0;
        }
        return set;
    }

    private boolean doable(int t, int balance) {
        for (int k = 0; k < parts.size(); k++) {
            if ((tasks.get(t) & 1 << k) != 0 && !isThere(k, balance)) {
                return false;
            }
        }
        return true;
    }

    private static int bound(int balance) {
        return balance > 9999 ? 9999 : balance < -9999 ? -9999 : balance;
    }

    private int later(int c, int balance) {
        return bound(bound(balance + customers.get(c)[1]) - customers.get(c)[2]);
    }

    private int net(int c) {
        int net = 0;
        for (int d = 0; d < customers.size(); d++) {
            net += state.owed[d][c] - state.owed[c][d];
        }
        return net;
    }

    int told(int what) {
        int[] counts = {parts.size(), customers.size(), tasks.size(), text.length(), state.months, 0, 0, 0, 0,
            spendings.size(), musts.size(), seen.size(), book.size(), past.size()};
        for (int c = 0; c < customers.size(); c++) {
            counts[5] += set(state.balance[c]) == 0 ? 1 << c : 0;
            counts[6] += Integer.bitCount(set(state.balance[c])) == parts.size() ? 1 << c : 0;
            counts[7] += net(c) < 0 ? 1 : 0;
            counts[8] += Integer.bitCount(set(state.balance[c] + net(c))) == parts.size() ? 1 << c : 0;
        }
        return what < 0 || what > 13 ? OUTSIDE : counts[what];
    }

    int part(int k) {
        return isPart(k) ? parts.get(k) : UNKNOWN;
    }

    int customer(int c, int what) {
        if (!isCustomer(c)) {
            return UNKNOWN;
        }
        int b = state.balance[c];
        int[] answers = {b + 10000, set(b), customers.get(c)[1], customers.get(c)[2], net(c) + 100000};
        return what < 0 || what > 4 ? OUTSIDE : answers[what];
    }

    int owes(int c, int d) {
        if (!isCustomer(c) || !isCustomer(d) || c == d) {
            return UNKNOWN;
        }
        return 100000 + state.owed[c][d] - state.owed[d][c];
    }

    int can(int c, int t) {
        return !isCustomer(c) || !isTask(t) ? UNKNOWN : doable(t, state.balance[c]) ? 1 : 0;
    }

    private void remember() {
        past.addLast(state.copy());
        if (past.size() > 20) {
            past.removeFirst();
        }
    }

    int month(int n) {
        if (n < 1 || n > 60) {
            return OUTSIDE;
        }
        if (parts.isEmpty()) {
            return NOT;
        }
        if (state.months > 9000) {
            return FULL;
        }
        remember();
        for (int k = 0; k < n; k++) {
            for (int c = 0; c < customers.size(); c++) {
                state.balance[c] = later(c, state.balance[c]);
            }
            state.months++;
        }
        return state.months;
    }

    int spend(int c, int much) {
        if (!isCustomer(c)) {
            return UNKNOWN;
        }
        if (much < 1 || much > 999) {
            return OUTSIDE;
        }
        remember();
        state.balance[c] = bound(state.balance[c] - much);
        return set(state.balance[c]);
    }

    int lend(int c, int d, int much) {
        if (!isCustomer(c) || !isCustomer(d) || c == d) {
            return UNKNOWN;
        }
        if (much < 1 || much > 999) {
            return OUTSIDE;
        }
        int settled = Math.min(much, state.owed[c][d]);
        if (state.owed[d][c] + much - settled > 9999) {
            return FULL;
        }
        remember();
        state.owed[c][d] -= settled;
        state.owed[d][c] += much - settled;
        state.balance[c] = bound(state.balance[c] - much);
        state.balance[d] = bound(state.balance[d] + much);
        return set(state.balance[d]);
    }

    int payBack(int c, int d, int much) {
        if (!isCustomer(c) || !isCustomer(d) || c == d) {
            return UNKNOWN;
        }
        if (much < 1 || much > 999) {
            return OUTSIDE;
        }
        if (state.owed[c][d] < much) {
            return NOT;
        }
        remember();
        state.owed[c][d] -= much;
        state.balance[c] = bound(state.balance[c] - much);
        state.balance[d] = bound(state.balance[d] + much);
        return state.owed[c][d];
    }

    private int draw(int n) {
        seed = (seed * 1103515245L + 12345L) % 2147483648L;
        return (int) (seed / 65536L % n);
    }

    int drift(int n) {
        if (n < 1 || n > 60) {
            return OUTSIDE;
        }
        if (parts.isEmpty()) {
            return NOT;
        }
        remember();
        for (int k = 0; k < n && !customers.isEmpty(); k++) {
            int c = draw(customers.size());
            int stake = draw(100);
            int sign = 2 * draw(2) - 1;
            state.balance[c] = bound(state.balance[c] + sign * stake);
        }
        return told(5);
    }

    int undo() {
        if (past.isEmpty()) {
            return NOT;
        }
        state = past.removeLast();
        return past.size();
    }

    int hat(int c) {
        if (!isCustomer(c)) {
            return UNKNOWN;
        }
        int b = state.balance[c];
        int months = 0;
        while (set(b) != 0 && months <= 200) {
            b = later(c, b);
            months++;
        }
        return months > 200 ? NONE : months;
    }

    int able(int c, int t, int n) {
        if (!isCustomer(c) || !isTask(t)) {
            return UNKNOWN;
        }
        if (n < 1 || n > 60) {
            return OUTSIDE;
        }
        int b = state.balance[c];
        int count = doable(t, b) ? 1 : 0;
        for (int k = 1; k < n; k++) {
            b = later(c, b);
            count += doable(t, b) ? 1 : 0;
        }
        return count;
    }

    int spending(int much) {
        if (much < 1 || much > 999) {
            return OUTSIDE;
        }
        if (spendings.size() == 5) {
            return FULL;
        }
        spendings.add(much);
        return spendings.size();
    }

    int must(int t, int month) {
        if (!isTask(t)) {
            return UNKNOWN;
        }
        if (month < 0 || month > 3) {
            return OUTSIDE;
        }
        if (musts.size() == 4) {
            return FULL;
        }
        musts.add(new int[] {t, month});
        return musts.size();
    }

    int plan(int c, int n, int i) {
        if (!isCustomer(c)) {
            return UNKNOWN;
        }
        if (n < 1 || n > 4) {
            return OUTSIDE;
        }
        for (int[] must : musts) {
            if (must[1] >= n) {
                return OUTSIDE;
            }
        }
        List<Integer> way = firstWay(c, n, new ArrayList<>());
        if (i == NONE) {
            return way == null ? 0 : 1;
        }
        return way == null || i < 0 || i >= way.size() ? NONE : way.get(i);
    }

    private List<Integer> firstWay(int c, int n, List<Integer> way) {
        if (way.size() == spendings.size()) {
            return isWay(c, way) ? way : null;
        }
        for (int month = 0; month < n; month++) {
            List<Integer> longer = new ArrayList<>(way);
            longer.add(month);
            List<Integer> found = firstWay(c, n, longer);
            if (found != null) {
                return found;
            }
        }
        return null;
    }

    private boolean isWay(int c, List<Integer> way) {
        for (int[] must : musts) {
            int b = state.balance[c];
            for (int month = 0; month <= must[1]; month++) {
                b = month > 0 ? later(c, b) : b;
                for (int s = 0; s < way.size(); s++) {
                    b = way.get(s) == month ? bound(b - spendings.get(s)) : b;
                }
            }
            if (!doable(must[0], b)) {
                return false;
            }
        }
        return true;
    }

    int asOne(int t, int i) {
        if (!isTask(t)) {
            return UNKNOWN;
        }
        List<Integer> pairs = new ArrayList<>();
        for (int pair = 0; pair < 50; pair++) {
            int c = pair / 10;
            int d = pair % 10;
            if (c < d && isCustomer(d) && can(c, t) == 0 && can(d, t) == 0
                && doable(t, state.balance[c] + state.balance[d])) {
                pairs.add(pair);
            }
        }
        return i == NONE ? pairs.size() : i < 0 || i >= pairs.size() ? NONE : pairs.get(i);
    }

    int loan(int c, int t, int what) {
        if (!isCustomer(c) || !isTask(t)) {
            return UNKNOWN;
        }
        if (what < 0 || what > 1) {
            return OUTSIDE;
        }
        for (int k = 0; k <= 9999; k++) {
            if (what == 0 && doable(t, bound(state.balance[c] + k))) {
                return k;
            }
            if (what == 1 && doable(t, bound(state.balance[c] - (9999 - k)))) {
                return 9999 - k;
            }
        }
        return NONE;
    }

    int order(int i) {
        List<Integer> gone = new ArrayList<>();
        for (int balance = 499; balance >= -501; balance--) {
            for (int k = 0; k < parts.size(); k++) {
                if (!isThere(k, balance) && !gone.contains(k)) {
                    gone.add(k);
                }
            }
        }
        return i < 0 || i >= gone.size() ? NONE : gone.get(i);
    }

    int wage(int n, int q) {
        if (n < 0 || n > 60 || q < 0 || q > 100) {
            return OUTSIDE;
        }
        long odds = 1000000000L;
        while (n-- > 0) {
            odds = odds * (100 - q) / 100;
        }
        return (int) odds;
    }

    int see(int k, boolean there) {
        if (!isPart(k)) {
            return UNKNOWN;
        }
        if (seen.size() == 8) {
            return FULL;
        }
        seen.add(new int[] {k, there ? 1 : 0});
        return seen.size();
    }

    private List<Integer> fitting() {
        List<Integer> fitting = new ArrayList<>();
        for (int b = -500; b <= 499; b++) {
            boolean fits = true;
            for (int[] s : seen) {
                fits &= isThere(s[0], b) == (s[1] == 1);
            }
            if (fits) {
                fitting.add(b);
            }
        }
        return fitting;
    }

    int has(int what) {
        if (what < 0 || what > 2) {
            return OUTSIDE;
        }
        List<Integer> f = fitting();
        if (what == 0) {
            return f.size();
        }
        return f.isEmpty() ? NONE : 10000 + f.get(what == 1 ? 0 : f.size() - 1);
    }

    int look() {
        List<Integer> f = fitting();
        int best = NONE;
        int bestAlike = f.size();
        for (int k = 0; k < parts.size(); k++) {
            int with = 0;
            for (int b : f) {
                with += isThere(k, b) ? 1 : 0;
            }
            int alike = Math.max(with, f.size() - with);
            if (alike < bestAlike) {
                best = k;
                bestAlike = alike;
            }
        }
        return best;
    }

    int write(int c, int balance) {
        if (!isCustomer(c)) {
            return UNKNOWN;
        }
        if (balance < 0 || balance > 20000) {
            return OUTSIDE;
        }
        if (book.size() == 15) {
            return FULL;
        }
        book.add(new int[] {c, balance});
        return book.size();
    }

    int tear() {
        int all = spendings.size() + musts.size() + seen.size() + book.size();
        spendings.clear();
        musts.clear();
        seen.clear();
        book.clear();
        return all;
    }

    int judge() {
        for (int e = 0; e < book.size(); e++) {
            if (customer(book.get(e)[0], 0) != book.get(e)[1]) {
                return e;
            }
        }
        return NONE;
    }

    int seed(int v) {
        if (v < 0) {
            return OUTSIDE;
        }
        int old = (int) seed;
        seed = v;
        return old;
    }

    int keep(int i) {
        if (i != 0 && i != 1) {
            return UNKNOWN;
        }
        image[i] = state.copy();
        imageSeed[i] = seed;
        past.clear();
        return 1;
    }

    int goBack(int i) {
        if (i != 0 && i != 1) {
            return UNKNOWN;
        }
        if (image[i] == null) {
            return NOT;
        }
        state = image[i].copy();
        seed = imageSeed[i];
        past.clear();
        return 1;
    }
}
