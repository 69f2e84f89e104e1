import java.util.Arrays;

/** Blocks of sealed calls, their orders, and how they are played; README.md says how to use it. */
public final class FairOrder {
    public static final int NONE = -1, BAD = -2, FULL = -3, WHEN = -4, SHORT = -5, OTHER = -6;

    private static final int MOST_ACCOUNTS = 8;
    private static final int MOST_CALLS = 16;
    private static final int NODES = 5;
    private static final int MOST_PRICE = 1000;
    private static final int MOST_AMOUNT = 1000;
    private static final int MOST_TIME = 1000000;
    private static final long MOST_DEPOSIT = 1000000L;
    private static final long MOST_AT_FIRST = 1000000000L;

    private static final int BUY = 0;
    private static final int SELL = 1;

    private static final int PHASE_SEALED = 0;
    private static final int PHASE_OPENED = 1;
    private static final int PHASE_DONE = 2;

    private static final int BY_NUMBER = 0;
    private static final int BY_PRICE = 1;
    private static final int BY_HEARD = 2;
    private static final int FAIR = 3;
    private static final int BY_LOT = 4;

    private static final int MONEY = 0;
    private static final int GOODS = 1;

    private static final int NAME_OF_POOL = -1;
    private static final int NAME_OF_POT = -2;

    // The pool's place in a market, behind all accounts.
    private static final int POOL = MOST_ACCOUNTS;

    // Behind all times, so that comparing two times needs no case for a node that told none.
    private static final int UNHEARD = MOST_TIME + 1;

    // Below every sum that can pass, as a call may be done for no money at all.
    private static final long LEFT = -1L;

    private static final long FACTOR = 6364136223846793005L;
    private static final long STEP = 1442695040888963407L;

    private final Market market = new Market();
    private final Market trial = new Market();
    private final Call[] calls = new Call[MOST_CALLS];
    private final Row row = new Row();
    private final Row movedRow = new Row();
    private final int[] keys = new int[MOST_CALLS];
    private final Links links = new Links();
    private final Auction auction = new Auction();
    private int accounts;
    private int size;
    private int phase;
    private int endedBlocks;
    private long pot;
    private boolean ordered;
    private boolean played;

    public FairOrder() {
        for (int i = 0; i < MOST_CALLS; i++) {
            calls[i] = new Call();
        }
    }

    public int clear() {
        int before = accounts;
        accounts = 0;
        market.makeEmpty();
        pot = 0;
        endedBlocks = 0;
        beginBlock();
        return before;
    }

    public int account(long money, long goods) {
        if (!mayBeginWith(money) || !mayBeginWith(goods)) {
            return BAD;
        }
        if (accounts >= MOST_ACCOUNTS) {
            return FULL;
        }
        market.put(accounts, money, goods);
        accounts++;
        return accounts - 1;
    }

    public int pool(long money, long goods) {
        if (!mayBeginWith(money) || !mayBeginWith(goods)) {
            return BAD;
        }
        market.put(POOL, money, goods);
        return 1;
    }

    public long seal(int side, int price, int amount, int salt) {
        return areTerms(side, price, amount) ? sealOf(side, price, amount, salt) : 0L;
    }

    public int commit(int account, long deposit, long seal) {
        if (!isAccount(account) || deposit < 0 || deposit > MOST_DEPOSIT) {
            return BAD;
        }
        if (phase != PHASE_SEALED) {
            return WHEN;
        }
        if (size >= MOST_CALLS) {
            return FULL;
        }
        if (market.money[account] < deposit) {
            return SHORT;
        }
        market.money[account] -= deposit;
        calls[size].begin(account, deposit, seal);
        size++;
        return size - 1;
    }

    public int hear(int node, int call, int time) {
        if (node < 0 || node >= NODES || !isCall(call) || time < 0 || time > MOST_TIME) {
            return BAD;
        }
        if (phase != PHASE_SEALED) {
            return WHEN;
        }
        int[] times = calls[call].times;
        if (times[node] != UNHEARD) {
            return OTHER;
        }
        times[node] = time;
        return 1;
    }

    public int open(int call, int side, int price, int amount, int salt) {
        if (!isCall(call) || !areTerms(side, price, amount)) {
            return BAD;
        }
        Call c = calls[call];
        if (phase != PHASE_OPENED || c.opened) {
            return WHEN;
        }
        if (c.seal != sealOf(side, price, amount, salt)) {
            return OTHER;
        }
        c.tell(side, price, amount);
        market.money[c.account] += c.deposit;
        return 1;
    }

    public int next() {
        if (phase == PHASE_SEALED) {
            phase = PHASE_OPENED;
        } else if (phase == PHASE_OPENED) {
            phase = PHASE_DONE;
            takeLostDeposits();
        } else {
            endedBlocks++;
            beginBlock();
        }
        return phase;
    }

    public int order(int kind, long seed) {
        if (kind < BY_NUMBER || kind > BY_LOT) {
            return BAD;
        }
        if (phase != PHASE_DONE) {
            return WHEN;
        }
        row.length = 0;
        if (kind == FAIR) {
            links.find(calls, size);
            links.addKnots(row, openedSet(), size);
        } else {
            addByNumbers();
            arrange(kind, seed);
        }
        ordered = true;
        return row.length;
    }

    public int at(int i) {
        return row.hasPlace(i) ? row.numbers[i] : NONE;
    }

    public int linked(int a, int b) {
        if (!isOpenedCall(a) || !isOpenedCall(b)) {
            return BAD;
        }
        links.find(calls, size);
        return links.leads(a, b) ? 1 : 0;
    }

    public int heard(int call) {
        if (!isCall(call)) {
            return BAD;
        }
        int third = calls[call].thirdTime();
        return third == UNHEARD ? NONE : third;
    }

    public int play() {
        if (!mayPlay()) {
            return WHEN;
        }
        played = true;
        int doneCalls = 0;
        for (int i = 0; i < row.length; i++) {
            Call c = calls[row.numbers[i]];
            long money = market.trade(c);
            if (money != LEFT) {
                c.note(c.amount, money);
                doneCalls++;
            }
        }
        return doneCalls;
    }

    public int batch() {
        if (!mayPlay()) {
            return WHEN;
        }
        played = true;
        int price = auction.findPrice(row, calls, market);
        if (price != NONE) {
            auction.settle(price, row, calls, market);
        }
        return price;
    }

    public int done(int c) {
        if (!isCall(c)) {
            return BAD;
        }
        return played ? calls[c].doneAmount : NONE;
    }

    public long passed(int c) {
        if (!isCall(c)) {
            return BAD;
        }
        return played ? calls[c].passedMoney : NONE;
    }

    public long gain(int i, int j, int what) {
        if (!mayPlay() || !row.hasPlace(i) || !row.hasPlace(j) || !isHolding(what)) {
            return 0L;
        }
        movedRow.copyFrom(row);
        movedRow.move(i, j);
        int account = calls[row.numbers[i]].account;
        long asItIs = heldAfterTrial(row, account, what);
        long moved = heldAfterTrial(movedRow, account, what);
        return moved - asItIs;
    }

    public long has(int account, int what) {
        if (!isHolding(what)) {
            return 0L;
        }
        if (account == NAME_OF_POOL) {
            return market.held(POOL, what);
        }
        if (account == NAME_OF_POT) {
            return what == MONEY ? pot : 0L;
        }
        return isAccount(account) ? market.held(account, what) : 0L;
    }

    public int of(int call, int what) {
        if (!isCall(call) || what < 0 || what > 4) {
            return BAD;
        }
        Call c = calls[call];
        if (what == 0) {
            return c.account;
        }
        if (what == 1) {
            return c.opened ? 1 : 0;
        }
        return c.opened ? c.term(what) : NONE;
    }

    public int count(int what) {
        switch (what) {
            case 0: return accounts;
            case 1: return size;
            case 2: return phase;
            case 3: return Integer.bitCount(openedSet());
            case 4: return endedBlocks;
            case 5: return row.length;
            default: return BAD;
        }
    }

    private static boolean mayBeginWith(long sum) {
        return sum >= 0 && sum <= MOST_AT_FIRST;
    }

    private static boolean areTerms(int side, int price, int amount) {
        return (side == BUY || side == SELL)
            && price >= 1 && price <= MOST_PRICE
            && amount >= 1 && amount <= MOST_AMOUNT;
    }

    private static boolean isHolding(int what) {
        return what == MONEY || what == GOODS;
    }

    private static long sealOf(int side, int price, int amount, int salt) {
        long x = ((salt * 31L + side) * 1009L + price) * 1013L + amount;
        x *= FACTOR;
        return x ^ (x >>> 29);
    }

    private boolean isAccount(int number) {
        return number >= 0 && number < accounts;
    }

    private boolean isCall(int number) {
        return number >= 0 && number < size;
    }

    private boolean isOpenedCall(int number) {
        return isCall(number) && calls[number].opened;
    }

    private boolean mayPlay() {
        return ordered && !played;
    }

    private void beginBlock() {
        size = 0;
        phase = PHASE_SEALED;
        row.length = 0;
        ordered = false;
        played = false;
    }

    private void takeLostDeposits() {
        for (int i = 0; i < size; i++) {
            if (!calls[i].opened) {
                pot += calls[i].deposit;
            }
        }
    }

    private int openedSet() {
        int set = 0;
        for (int i = 0; i < size; i++) {
            if (calls[i].opened) {
                set |= 1 << i;
            }
        }
        return set;
    }

    private void addByNumbers() {
        for (int i = 0; i < size; i++) {
            if (calls[i].opened) {
                row.add(i);
            }
        }
    }

    private void arrange(int kind, long seed) {
        if (kind == BY_LOT) {
            row.shuffle(seed);
            return;
        }
        for (int i = 0; i < size; i++) {
            keys[i] = keyOf(calls[i], kind);
        }
        row.sortBy(keys);
    }

    // All keys alike leave a row as it is, by numbers.
    private static int keyOf(Call call, int kind) {
        switch (kind) {
            case BY_PRICE: return -call.price;
            case BY_HEARD: return call.thirdTime();
            default: return 0;
        }
    }

    private long heldAfterTrial(Row tried, int account, int what) {
        trial.copyFrom(market);
        for (int i = 0; i < tried.length; i++) {
            trial.trade(calls[tried.numbers[i]]);
        }
        return trial.held(account, what);
    }

    /** One call of the block: sealed, then perhaps opened, then perhaps done. */
    private static final class Call {
        final int[] times = new int[NODES];
        int account;
        long deposit;
        long seal;
        boolean opened;
        int side;
        int price;
        int amount;
        int doneAmount;
        long passedMoney;

        // Objects are used again by later blocks, so all that an earlier call left is wiped.
        void begin(int newAccount, long newDeposit, long newSeal) {
            account = newAccount;
            deposit = newDeposit;
            seal = newSeal;
            opened = false;
            Arrays.fill(times, UNHEARD);
            note(0, 0L);
        }

        void tell(int newSide, int newPrice, int newAmount) {
            opened = true;
            side = newSide;
            price = newPrice;
            amount = newAmount;
        }

        void note(int newDone, long newPassed) {
            doneAmount = newDone;
            passedMoney = newPassed;
        }

        int term(int what) {
            return what == 2 ? side : what == 3 ? price : amount;
        }

        long limit() {
            return (long) price * amount;
        }

        int thirdTime() {
            for (int node = 0; node < NODES; node++) {
                if (nodesBefore(node) == 2) {
                    return times[node];
                }
            }
            return UNHEARD;
        }

        // Nodes of the same time count by number, so that each place is held by just one node.
        private int nodesBefore(int node) {
            int before = 0;
            for (int n = 0; n < NODES; n++) {
                if (times[n] < times[node] || (times[n] == times[node] && n < node)) {
                    before++;
                }
            }
            return before;
        }

        boolean isAheadOf(Call other) {
            int votes = 0;
            for (int n = 0; n < NODES; n++) {
                votes += Integer.compare(other.times[n], times[n]);
            }
            return votes > 0;
        }
    }

    /** Money and goods of all accounts and of the pool. */
    private static final class Market {
        final long[] money = new long[MOST_ACCOUNTS + 1];
        final long[] goods = new long[MOST_ACCOUNTS + 1];

        void makeEmpty() {
            Arrays.fill(money, 0L);
            Arrays.fill(goods, 0L);
        }

        void put(int owner, long newMoney, long newGoods) {
            money[owner] = newMoney;
            goods[owner] = newGoods;
        }

        void copyFrom(Market other) {
            System.arraycopy(other.money, 0, money, 0, MOST_ACCOUNTS + 1);
            System.arraycopy(other.goods, 0, goods, 0, MOST_ACCOUNTS + 1);
        }

        long held(int owner, int what) {
            return what == MONEY ? money[owner] : goods[owner];
        }

        /** Plays one call against the pool: the money that passed, or LEFT. */
        long trade(Call call) {
            return call.side == BUY ? buyFromPool(call) : sellToPool(call);
        }

        private long buyFromPool(Call call) {
            long rest = goods[POOL] - call.amount;
            if (rest <= 0) {
                return LEFT;
            }
            long cost = (money[POOL] * call.amount + rest - 1) / rest;
            if (cost > call.limit() || cost > money[call.account]) {
                return LEFT;
            }
            take(call.account, cost, call.amount);
            give(POOL, cost, call.amount);
            return cost;
        }

        private long sellToPool(Call call) {
            long sum = goods[POOL] + call.amount;
            if (sum <= 0 || goods[call.account] < call.amount) {
                return LEFT;
            }
            long income = money[POOL] * call.amount / sum;
            if (income < call.limit()) {
                return LEFT;
            }
            give(call.account, income, call.amount);
            take(POOL, income, call.amount);
            return income;
        }

        void take(int owner, long paid, long amount) {
            money[owner] -= paid;
            goods[owner] += amount;
        }

        void give(int owner, long earned, long amount) {
            money[owner] += earned;
            goods[owner] -= amount;
        }
    }

    /** Numbers of calls, one behind the other. */
    private static final class Row {
        final int[] numbers = new int[MOST_CALLS];
        int length;

        boolean hasPlace(int i) {
            return i >= 0 && i < length;
        }

        void add(int number) {
            if (length < MOST_CALLS) {
                numbers[length] = number;
                length++;
            }
        }

        void copyFrom(Row other) {
            System.arraycopy(other.numbers, 0, numbers, 0, MOST_CALLS);
            length = other.length;
        }

        // By insertion, as it keeps those of the same key in the order of their numbers.
        void sortBy(int[] keys) {
            for (int i = 1; i < length; i++) {
                int p = i;
                while (p > 0 && keys[numbers[p - 1]] > keys[numbers[p]]) {
                    swap(p - 1, p);
                    p--;
                }
            }
        }

        void shuffle(long seed) {
            long x = seed;
            for (int p = length - 1; p >= 1; p--) {
                x = x * FACTOR + STEP;
                swap(p, (int) ((x >>> 33) % (p + 1)));
            }
        }

        void move(int from, int to) {
            for (int p = from; p < to; p++) {
                swap(p, p + 1);
            }
            for (int p = from; p > to; p--) {
                swap(p, p - 1);
            }
        }

        private void swap(int p, int q) {
            int number = numbers[p];
            numbers[p] = numbers[q];
            numbers[q] = number;
        }
    }

    /** Which opened calls are linked to which; sets of calls are held as bits, by numbers. */
    private static final class Links {
        final int[] reached = new int[MOST_CALLS];

        void find(Call[] calls, int size) {
            for (int a = 0; a < size; a++) {
                reached[a] = setBehind(a, calls, size);
            }
            for (int via = 0; via < size; via++) {
                for (int a = 0; a < size; a++) {
                    if (leads(a, via)) {
                        reached[a] |= reached[via];
                    }
                }
            }
        }

        // Links lead through opened calls alone, as orders know no others.
        private int setBehind(int a, Call[] calls, int size) {
            int set = 0;
            for (int b = 0; b < size; b++) {
                if (calls[a].opened && calls[b].opened && calls[a].isAheadOf(calls[b])) {
                    set |= 1 << b;
                }
            }
            return set;
        }

        boolean leads(int a, int b) {
            return contains(reached[a], b);
        }

        void addKnots(Row row, int opened, int size) {
            int left = opened;
            for (int turn = 0; turn < MOST_CALLS && left != 0; turn++) {
                int knot = firstKnot(left, size);
                addSet(row, knot, size);
                left &= ~knot;
            }
        }

        private int firstKnot(int left, int size) {
            for (int a = 0; a < size; a++) {
                if (contains(left, a) && isFree(a, left, size)) {
                    return knotOf(a, size);
                }
            }
            return 0;
        }

        // One call speaks for its knot: what is linked to it is linked to all of the knot.
        private boolean isFree(int a, int left, int size) {
            for (int b = 0; b < size; b++) {
                if (contains(left, b) && leads(b, a) && !leads(a, b)) {
                    return false;
                }
            }
            return true;
        }

        private int knotOf(int a, int size) {
            int knot = 1 << a;
            for (int b = 0; b < size; b++) {
                if (leads(a, b) && leads(b, a)) {
                    knot |= 1 << b;
                }
            }
            return knot;
        }

        private static void addSet(Row row, int set, int size) {
            for (int i = 0; i < size; i++) {
                if (contains(set, i)) {
                    row.add(i);
                }
            }
        }

        private static boolean contains(int set, int number) {
            return (set >>> number & 1) != 0;
        }
    }

    /** All calls of a row at one price. */
    private static final class Auction {
        final boolean[] takesPart = new boolean[MOST_CALLS];
        final long[] bought = new long[MOST_ACCOUNTS];
        final long[] sold = new long[MOST_ACCOUNTS];
        long demand;
        long supply;

        int findPrice(Row row, Call[] calls, Market market) {
            int best = NONE;
            long greatest = 0;
            for (int price = 1; price <= MOST_PRICE; price++) {
                gather(price, row, calls, market);
                if (volume() > greatest) {
                    greatest = volume();
                    best = price;
                }
            }
            return best;
        }

        void settle(int price, Row row, Call[] calls, Market market) {
            gather(price, row, calls, market);
            long toBuy = volume();
            long toSell = volume();
            for (int i = 0; i < row.length; i++) {
                Call c = calls[row.numbers[i]];
                if (takesPart[i] && c.side == BUY) {
                    toBuy -= fill(c, toBuy, price, market);
                } else if (takesPart[i]) {
                    toSell -= fill(c, toSell, price, market);
                }
            }
        }

        private long volume() {
            return Math.min(demand, supply);
        }

        private void gather(int price, Row row, Call[] calls, Market market) {
            Arrays.fill(bought, 0L);
            Arrays.fill(sold, 0L);
            demand = 0;
            supply = 0;
            for (int i = 0; i < row.length; i++) {
                Call c = calls[row.numbers[i]];
                takesPart[i] = c.side == BUY ? joinBuys(c, price, market) : joinSells(c, price, market);
            }
        }

        private boolean joinBuys(Call c, int price, Market market) {
            long amounts = bought[c.account] + c.amount;
            if (c.price < price || amounts * price > market.money[c.account]) {
                return false;
            }
            bought[c.account] = amounts;
            demand += c.amount;
            return true;
        }

        private boolean joinSells(Call c, int price, Market market) {
            long amounts = sold[c.account] + c.amount;
            if (c.price > price || amounts > market.goods[c.account]) {
                return false;
            }
            sold[c.account] = amounts;
            supply += c.amount;
            return true;
        }

        private static long fill(Call c, long most, int price, Market market) {
            int amount = (int) Math.min(c.amount, most);
            long money = (long) amount * price;
            c.note(amount, money);
            if (c.side == BUY) {
                market.take(c.account, money, amount);
            } else {
                market.give(c.account, money, amount);
            }
            return amount;
        }
    }
}
