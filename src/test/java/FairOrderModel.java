import java.math.BigInteger;
import java.util.ArrayList;
import java.util.Collections;
import java.util.Comparator;
import java.util.List;
import java.util.Random;
import java.util.TreeSet;

/** Random runs of calls, each answered by FairOrder and by a second program written straight from the document. */
public final class FairOrderModel {
    private static final int NONE = -1, BAD = -2, FULL = -3, WHEN = -4, SHORT = -5, OTHER = -6;
    private static final int RUNS = 1000;
    private static final int CALLS_A_RUN = 512;

    /** MONEY and GOODS of one owner. */
    private static final class Owner {
        BigInteger money;
        BigInteger goods;

        Owner(long money, long goods) {
            this.money = BigInteger.valueOf(money);
            this.goods = BigInteger.valueOf(goods);
        }

        Owner copy() {
            return new Owner(money.longValueExact(), goods.longValueExact());
        }
    }

    private static final class Told {
        int number;
        int account;
        long deposit;
        long seal;
        boolean opened;
        int side;
        int price;
        int amount;
        Integer[] times = new Integer[5];
        int done;
        long passed;
    }

    /** The second program. */
    private static final class Model {
        List<Owner> accounts = new ArrayList<>();
        Owner pool = new Owner(0, 0);
        long pot;
        List<Told> calls = new ArrayList<>();
        int phase;
        int ended;
        List<Told> order;
        boolean played;

        int clear() {
            int n = accounts.size();
            accounts.clear();
            pool = new Owner(0, 0);
            pot = 0;
            ended = 0;
            newBlock();
            return n;
        }

        void newBlock() {
            calls = new ArrayList<>();
            phase = 0;
            order = null;
            played = false;
        }

        static boolean within(long x, long least, long most) {
            return least <= x && x <= most;
        }

        int account(long money, long goods) {
            if (!within(money, 0, 1000000000) || !within(goods, 0, 1000000000)) return BAD;
            if (accounts.size() == 8) return FULL;
            accounts.add(new Owner(money, goods));
            return accounts.size() - 1;
        }

        int pool(long money, long goods) {
            if (!within(money, 0, 1000000000) || !within(goods, 0, 1000000000)) return BAD;
            pool = new Owner(money, goods);
            return 1;
        }

        long seal(int side, int price, int amount, int salt) {
            if (!within(side, 0, 1) || !within(price, 1, 1000) || !within(amount, 1, 1000)) return 0;
            BigInteger x = BigInteger.valueOf(salt);
            x = x.multiply(BigInteger.valueOf(31)).add(BigInteger.valueOf(side));
            x = x.multiply(BigInteger.valueOf(1009)).add(BigInteger.valueOf(price));
            x = x.multiply(BigInteger.valueOf(1013)).add(BigInteger.valueOf(amount));
            long y = x.multiply(new BigInteger("6364136223846793005")).longValue();
            return y ^ (y >>> 29);
        }

        boolean isCall(int c) {
            return within(c, 0, calls.size() - 1);
        }

        int commit(int account, long deposit, long seal) {
            if (!within(account, 0, accounts.size() - 1) || !within(deposit, 0, 1000000)) return BAD;
            if (phase != 0) return WHEN;
            if (calls.size() == 16) return FULL;
            Owner o = accounts.get(account);
            if (o.money.compareTo(BigInteger.valueOf(deposit)) < 0) return SHORT;
            o.money = o.money.subtract(BigInteger.valueOf(deposit));
            Told t = new Told();
            t.number = calls.size();
            t.account = account;
            t.deposit = deposit;
            t.seal = seal;
            calls.add(t);
            return t.number;
        }

        int hear(int node, int call, int time) {
            if (!within(node, 0, 4) || !isCall(call) || !within(time, 0, 1000000)) return BAD;
            if (phase != 0) return WHEN;
            if (calls.get(call).times[node] != null) return OTHER;
            calls.get(call).times[node] = time;
            return 1;
        }

        int open(int call, int side, int price, int amount, int salt) {
            if (!within(side, 0, 1) || !within(price, 1, 1000) || !within(amount, 1, 1000) || !isCall(call)) return BAD;
            Told t = calls.get(call);
            if (phase != 1 || t.opened) return WHEN;
            if (seal(side, price, amount, salt) != t.seal) return OTHER;
            t.opened = true;
            t.side = side;
            t.price = price;
            t.amount = amount;
            Owner o = accounts.get(t.account);
            o.money = o.money.add(BigInteger.valueOf(t.deposit));
            return 1;
        }

        int next() {
            if (phase == 2) {
                ended++;
                newBlock();
                return 0;
            }
            phase++;
            if (phase == 2) {
                for (Told t : calls) if (!t.opened) pot += t.deposit;
            }
            return phase;
        }

        List<Told> opened() {
            List<Told> all = new ArrayList<>();
            for (Told t : calls) if (t.opened) all.add(t);
            return all;
        }

        static int third(Told t) {
            List<Integer> told = new ArrayList<>();
            for (Integer time : t.times) if (time != null) told.add(time);
            Collections.sort(told);
            return told.size() < 3 ? Integer.MAX_VALUE : told.get(2);
        }

        static boolean before(Integer a, Integer b) {
            return a != null && (b == null || a < b);
        }

        static boolean ahead(Told a, Told b) {
            int forA = 0;
            int forB = 0;
            for (int n = 0; n < 5; n++) {
                if (before(a.times[n], b.times[n])) forA++;
                if (before(b.times[n], a.times[n])) forB++;
            }
            return forA > forB;
        }

        boolean isLinked(Told a, Told b) {
            List<Told> seen = new ArrayList<>();
            List<Told> todo = new ArrayList<>(List.of(a));
            while (!todo.isEmpty()) {
                Told from = todo.remove(0);
                for (Told to : opened()) {
                    if (ahead(from, to) && !seen.contains(to)) {
                        seen.add(to);
                        todo.add(to);
                    }
                }
            }
            return seen.contains(b);
        }

        List<Told> fair() {
            List<Told> all = opened();
            boolean[][] link = new boolean[16][16];
            for (Told a : all) for (Told b : all) link[a.number][b.number] = isLinked(a, b);
            List<List<Told>> knots = new ArrayList<>();
            TreeSet<Integer> used = new TreeSet<>();
            for (Told a : all) {
                if (used.contains(a.number)) continue;
                List<Told> knot = new ArrayList<>();
                for (Told b : all) {
                    if (a == b || link[a.number][b.number] && link[b.number][a.number]) {
                        knot.add(b);
                        used.add(b.number);
                    }
                }
                knots.add(knot);
            }
            List<Told> row = new ArrayList<>();
            while (!knots.isEmpty()) {
                List<Told> chosen = null;
                for (List<Told> k : knots) {
                    if (!hasOneBefore(k, knots, link) && (chosen == null || k.get(0).number < chosen.get(0).number)) {
                        chosen = k;
                    }
                }
                row.addAll(chosen);
                knots.remove(chosen);
            }
            return row;
        }

        static boolean hasOneBefore(List<Told> knot, List<List<Told>> knots, boolean[][] link) {
            for (List<Told> other : knots) {
                if (other == knot) continue;
                for (Told a : other) for (Told b : knot) if (link[a.number][b.number]) return true;
            }
            return false;
        }

        int order(int kind, long seed) {
            if (!within(kind, 0, 4)) return BAD;
            if (phase != 2) return WHEN;
            List<Told> row = opened();
            if (kind == 1) row.sort(Comparator.comparingInt((Told t) -> -t.price).thenComparingInt(t -> t.number));
            if (kind == 2) row.sort(Comparator.comparingInt((Told t) -> third(t)).thenComparingInt(t -> t.number));
            if (kind == 3) row = fair();
            if (kind == 4) {
                BigInteger x = BigInteger.valueOf(seed);
                for (int p = row.size() - 1; p >= 1; p--) {
                    x = x.multiply(new BigInteger("6364136223846793005")).add(new BigInteger("1442695040888963407"));
                    BigInteger wrapped = x.mod(BigInteger.ONE.shiftLeft(64));
                    int q = wrapped.shiftRight(33).mod(BigInteger.valueOf(p + 1)).intValueExact();
                    Collections.swap(row, p, q);
                }
            }
            order = row;
            return row.size();
        }

        int at(int i) {
            return order != null && within(i, 0, order.size() - 1) ? order.get(i).number : NONE;
        }

        int linked(int a, int b) {
            if (!isCall(a) || !isCall(b) || !calls.get(a).opened || !calls.get(b).opened) return BAD;
            return isLinked(calls.get(a), calls.get(b)) ? 1 : 0;
        }

        int heard(int c) {
            if (!isCall(c)) return BAD;
            int t = third(calls.get(c));
            return t == Integer.MAX_VALUE ? NONE : t;
        }

        static int playRow(List<Told> row, List<Owner> owners, Owner pool, boolean note) {
            int done = 0;
            for (Told t : row) {
                BigInteger n = BigInteger.valueOf(t.amount);
                BigInteger bound = BigInteger.valueOf(t.price).multiply(n);
                Owner o = owners.get(t.account);
                BigInteger sum;
                if (t.side == 0) {
                    if (n.compareTo(pool.goods) >= 0) continue;
                    BigInteger[] parts = pool.money.multiply(n).divideAndRemainder(pool.goods.subtract(n));
                    sum = parts[1].signum() == 0 ? parts[0] : parts[0].add(BigInteger.ONE);
                    if (sum.compareTo(bound) > 0 || o.money.compareTo(sum) < 0) continue;
                    o.money = o.money.subtract(sum);
                    o.goods = o.goods.add(n);
                    pool.money = pool.money.add(sum);
                    pool.goods = pool.goods.subtract(n);
                } else {
                    if (o.goods.compareTo(n) < 0) continue;
                    sum = pool.money.multiply(n).divide(pool.goods.add(n));
                    if (sum.compareTo(bound) < 0) continue;
                    o.money = o.money.add(sum);
                    o.goods = o.goods.subtract(n);
                    pool.money = pool.money.subtract(sum);
                    pool.goods = pool.goods.add(n);
                }
                done++;
                if (note) {
                    t.done = t.amount;
                    t.passed = sum.longValueExact();
                }
            }
            return done;
        }

        int play() {
            if (order == null || played) return WHEN;
            played = true;
            return playRow(order, accounts, pool, true);
        }

        List<Told> takingPart(int p, int side) {
            List<Told> part = new ArrayList<>();
            for (Told t : order) {
                if (t.side != side || (side == 0 ? t.price < p : t.price > p)) continue;
                long amounts = t.amount;
                for (Told u : part) if (u.account == t.account) amounts += u.amount;
                Owner o = accounts.get(t.account);
                BigInteger has = side == 0 ? o.money : o.goods;
                if (has.compareTo(BigInteger.valueOf(side == 0 ? amounts * p : amounts)) >= 0) part.add(t);
            }
            return part;
        }

        static int total(List<Told> row) {
            int sum = 0;
            for (Told t : row) sum += t.amount;
            return sum;
        }

        int batch() {
            if (order == null || played) return WHEN;
            played = true;
            int price = NONE;
            int volume = 0;
            for (int p = 1000; p >= 1; p--) {
                int v = Math.min(total(takingPart(p, 0)), total(takingPart(p, 1)));
                if (v > 0 && v >= volume) {
                    volume = v;
                    price = p;
                }
            }
            if (price == NONE) return NONE;
            List<List<Told>> sides = List.of(takingPart(price, 0), takingPart(price, 1));
            for (List<Told> side : sides) {
                int left = volume;
                for (Told t : side) {
                    t.done = Math.min(left, t.amount);
                    t.passed = (long) t.done * price;
                    left -= t.done;
                }
            }
            for (Told t : order) {
                Owner o = accounts.get(t.account);
                int sign = t.side == 0 ? 1 : -1;
                o.money = o.money.subtract(BigInteger.valueOf(sign * t.passed));
                o.goods = o.goods.add(BigInteger.valueOf((long) sign * t.done));
            }
            return price;
        }

        int done(int c) {
            return !isCall(c) ? BAD : played ? calls.get(c).done : NONE;
        }

        long passed(int c) {
            return !isCall(c) ? BAD : played ? calls.get(c).passed : NONE;
        }

        BigInteger tried(List<Told> row, int account, int what) {
            List<Owner> owners = new ArrayList<>();
            for (Owner o : accounts) owners.add(o.copy());
            playRow(row, owners, pool.copy(), false);
            return what == 0 ? owners.get(account).money : owners.get(account).goods;
        }

        long gain(int i, int j, int what) {
            if (order == null || played || !within(what, 0, 1)) return 0;
            if (!within(i, 0, order.size() - 1) || !within(j, 0, order.size() - 1)) return 0;
            List<Told> other = new ArrayList<>(order);
            Told t = other.remove(i);
            other.add(j, t);
            return tried(other, t.account, what).subtract(tried(order, t.account, what)).longValueExact();
        }

        long has(int account, int what) {
            if (!within(what, 0, 1)) return 0;
            if (account == -2) return what == 0 ? pot : 0;
            if (account != -1 && !within(account, 0, accounts.size() - 1)) return 0;
            Owner o = account == -1 ? pool : accounts.get(account);
            return (what == 0 ? o.money : o.goods).longValueExact();
        }

        int of(int c, int what) {
            if (!isCall(c) || !within(what, 0, 4)) return BAD;
            Told t = calls.get(c);
            if (what == 0) return t.account;
            if (what == 1) return t.opened ? 1 : 0;
            if (!t.opened) return NONE;
            return what == 2 ? t.side : what == 3 ? t.price : t.amount;
        }

        int count(int what) {
            int[] all = {accounts.size(), calls.size(), phase, opened().size(), ended, order == null ? 0 : order.size()};
            return within(what, 0, 5) ? all[what] : BAD;
        }
    }

    /** What a run draws its numbers from; few prices and times in some runs, so that ties and knots come. */
    private static final class Draw {
        final Random random;
        final int prices;
        final int amounts;
        final int times;
        final long means;

        Draw(long seed) {
            random = new Random(seed);
            prices = new int[] {3, 20, 1000}[below(3)];
            amounts = new int[] {3, 20, 1000}[below(3)];
            times = new int[] {3, 8, 1000000}[below(3)];
            means = new long[] {20, 1000, 100000, 1000000000}[below(4)];
        }

        int below(int n) {
            return random.nextInt(n);
        }

        // Mostly 0 .. n - 1, sometimes beside it.
        int near(int n) {
            int r = below(40);
            return r == 0 ? -1 : r == 1 ? n : r == 2 ? random.nextInt() : below(Math.max(n, 1));
        }

        long sum() {
            int r = below(40);
            return r == 0 ? -1 : r == 1 ? 1000000001L : r == 2 ? random.nextLong() : r == 3 ? 1000000000L
                : (long) (random.nextDouble() * (means + 1));
        }

        // A pool of the size and the price of the calls, so that some are done and some are left.
        long poolGoods() {
            return below(8) == 0 ? sum() : below(amounts * 20);
        }

        long poolMoney(long goods) {
            return below(8) == 0 ? sum() : Math.min(1000000000L, Math.max(0, goods) * (1 + below(prices)));
        }

        long deposit() {
            int r = below(40);
            return r == 0 ? -1 : r == 1 ? 1000001 : r == 2 ? 1000000 : below((int) Math.min(1000000, means / 4 + 1));
        }

        int price() {
            int r = below(60);
            return r == 0 ? 0 : r == 1 ? 1001 : r == 2 ? 1000 : 1 + below(prices);
        }

        int amount() {
            int r = below(60);
            return r == 0 ? 0 : r == 1 ? 1001 : r == 2 ? 1000 : 1 + below(amounts);
        }

        int time() {
            int r = below(60);
            return r == 0 ? -1 : r == 1 ? 1000001 : r == 2 ? 1000000 : below(times);
        }
    }

    private static int wrong = 0;

    private static boolean same(long seed, int step, String call, long got, long want) {
        if (got != want) {
            wrong++;
            System.out.println("run " + seed + ", call " + step + ": " + call + " answered " + got + ", due is " + want);
        }
        return got == want;
    }

    public static void main(String[] args) {
        for (long seed = 0; seed < RUNS && wrong < 20; seed++) {
            run(seed);
        }
        System.out.println(wrong == 0 ? "all runs are alike" : wrong + " answers are not alike");
        if (wrong != 0) {
            System.exit(1);
        }
    }

    private static void run(long seed) {
        FairOrder x = new FairOrder();
        Model m = new Model();
        Draw d = new Draw(seed);
        int[][] terms = new int[17][];
        for (int step = 0; step < CALLS_A_RUN; step++) {
            int kind = pick(d, m);
            if (!one(seed, step, kind, x, m, d, terms) || !alike(seed, step, x, m)) {
                return;
            }
        }
    }

    // What is likely in the phase, so that runs get somewhere; all else now and then.
    private static int pick(Draw d, Model m) {
        if (d.below(12) == 0) return d.below(100) == 0 ? 0 : 1 + d.below(19);
        if (m.accounts.size() < 3) return 1;
        int[][] likely = {
            {1, 2, 4, 4, 4, 4, 4, 5, 5, 5, 5, 5, 5, 5, 5, 5, 5, 5, 11},
            {6, 6, 6, 6, 6, 6, 6, 6, 6, 6, 6, 6, 6, 6, 6, 10},
            {8, 8, 2, 16, 16, 16, 16, 16, 16, 9, 10, 14, 15},
        };
        int[] row = likely[m.phase];
        if (d.below(2 * row.length) == 0) return m.phase == 2 && !m.played ? 12 + d.below(2) : 7;
        return m.phase == 2 && m.order == null ? 8 : row[d.below(row.length)];
    }

    private static boolean one(long seed, int step, int kind, FairOrder x, Model m, Draw d, int[][] terms) {
        int calls = m.calls.size();
        switch (kind) {
            case 0: return same(seed, step, "clear", x.clear(), m.clear());
            case 1: {
                long a = d.sum(), b = d.sum();
                return same(seed, step, "account", x.account(a, b), m.account(a, b));
            }
            case 2: {
                long b = d.poolGoods();
                long a = d.poolMoney(b);
                return same(seed, step, "pool", x.pool(a, b), m.pool(a, b));
            }
            case 3: {
                int a = d.near(2), b = d.price(), c = d.amount(), e = d.random.nextInt();
                return same(seed, step, "seal", x.seal(a, b, c, e), m.seal(a, b, c, e));
            }
            case 4: {
                int[] t = {d.below(2), d.price(), d.amount(), d.random.nextInt()};
                int account = d.near(m.accounts.size());
                long deposit = d.deposit();
                long seal = m.seal(t[0], t[1], t[2], t[3]);
                int want = m.commit(account, deposit, seal);
                if (want >= 0) terms[want] = t;
                return same(seed, step, "commit", x.commit(account, deposit, seal), want);
            }
            case 5: {
                int a = d.near(5), b = d.near(calls), c = d.time();
                return same(seed, step, "hear", x.hear(a, b, c), m.hear(a, b, c));
            }
            case 6: {
                int c = d.near(calls);
                int[] t = c >= 0 && c < calls ? terms[c].clone() : new int[] {0, 1, 1, 0};
                if (d.below(10) == 0) t[d.below(4)] += d.below(3) - 1;
                return same(seed, step, "open", x.open(c, t[0], t[1], t[2], t[3]), m.open(c, t[0], t[1], t[2], t[3]));
            }
            default: return oneMore(seed, step, kind, x, m, d);
        }
    }

    private static boolean oneMore(long seed, int step, int kind, FairOrder x, Model m, Draw d) {
        int calls = m.calls.size();
        int a = d.near(calls);
        int b = d.near(calls);
        int w = d.near(2);
        switch (kind) {
            case 7: return same(seed, step, "next", x.next(), m.next());
            case 8: {
                int k = d.near(5);
                long s = d.random.nextLong();
                return same(seed, step, "order", x.order(k, s), m.order(k, s));
            }
            case 9: return same(seed, step, "at", x.at(a), m.at(a));
            case 10: return same(seed, step, "linked", x.linked(a, b), m.linked(a, b));
            case 11: return same(seed, step, "heard", x.heard(a), m.heard(a));
            case 12: return same(seed, step, "play", x.play(), m.play());
            case 13: return same(seed, step, "batch", x.batch(), m.batch());
            case 14: return same(seed, step, "done", x.done(a), m.done(a));
            case 15: return same(seed, step, "passed", x.passed(a), m.passed(a));
            case 16: return same(seed, step, "gain", x.gain(a, b, w), m.gain(a, b, w));
            case 17: {
                int owner = d.near(m.accounts.size() + 3) - 2;
                return same(seed, step, "has", x.has(owner, w), m.has(owner, w));
            }
            case 18: {
                int k = d.near(5);
                return same(seed, step, "of", x.of(a, k), m.of(a, k));
            }
            default: {
                int k = d.near(6);
                return same(seed, step, "count", x.count(k), m.count(k));
            }
        }
    }

    // All that can be asked without changing a thing is alike after each call.
    private static boolean alike(long seed, int step, FairOrder x, Model m) {
        boolean alike = true;
        for (int what = 0; what <= 5; what++) {
            alike &= same(seed, step, "then count(" + what + ")", x.count(what), m.count(what));
        }
        for (int owner = -2; owner < 8; owner++) {
            alike &= same(seed, step, "then has(" + owner + ", 0)", x.has(owner, 0), m.has(owner, 0));
            alike &= same(seed, step, "then has(" + owner + ", 1)", x.has(owner, 1), m.has(owner, 1));
        }
        for (int c = 0; c < 16; c++) {
            alike &= same(seed, step, "then done(" + c + ")", x.done(c), m.done(c));
            alike &= same(seed, step, "then passed(" + c + ")", x.passed(c), m.passed(c));
            alike &= same(seed, step, "then at(" + c + ")", x.at(c), m.at(c));
            alike &= same(seed, step, "then heard(" + c + ")", x.heard(c), m.heard(c));
            for (int what = 0; what <= 4; what++) {
                alike &= same(seed, step, "then of(" + c + ", " + what + ")", x.of(c, what), m.of(c, what));
            }
        }
        return alike;
    }
}
