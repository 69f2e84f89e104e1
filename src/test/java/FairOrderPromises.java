/** For each promise of the document: ordinary inputs, the edges it names, and wrong inputs. */
public final class FairOrderPromises {
    private static final int NONE = -1, BAD = -2, FULL = -3, WHEN = -4, SHORT = -5, OTHER = -6;
    private static final int BUY = 0, SELL = 1;
    private static final long MOST = 1000000000L;

    private static int wrong = 0;
    private static String promise = "";

    private static void due(String call, long got, long want) {
        if (got != want) {
            wrong++;
            System.out.println("promise " + promise + ": " + call + " answered " + got + ", due is " + want);
        }
    }

    public static void main(String[] args) {
        promise1NewObject();
        promise2Clear();
        promise3Account();
        promise4Pool();
        promise5Seal();
        promise6Commit();
        promise7Hear();
        promise8Open();
        promise9Next();
        promise10OrderRefusals();
        promise10ByNumberAndPrice();
        promise10ByHeard();
        promise10Fair();
        promise10FairKnots();
        promise10ByLot();
        promise11At();
        promise12Linked();
        promise13Heard();
        promise14Play();
        promise14PlayEdges();
        promise15Batch();
        promise15BatchParts();
        promise15BatchMeans();
        promise15BatchNone();
        promise16And17DoneAndPassed();
        promise18Gain();
        promise19Has();
        promise20Of();
        promise21Count();
        System.out.println(wrong == 0 ? "all answers are as due" : wrong + " answers are not as due");
        if (wrong != 0) {
            System.exit(1);
        }
    }

    // A row of terms: account, side, price, amount. The salt is the call's number.
    private static void commitAll(FairOrder x, int[][] terms) {
        for (int i = 0; i < terms.length; i++) {
            int[] t = terms[i];
            due("commit of call " + i, x.commit(t[0], 0, x.seal(t[1], t[2], t[3], i)), i);
        }
    }

    private static void openAll(FairOrder x, int[][] terms) {
        due("next", x.next(), 1);
        for (int i = 0; i < terms.length; i++) {
            int[] t = terms[i];
            due("open of call " + i, x.open(i, t[1], t[2], t[3], i), 1);
        }
        due("next", x.next(), 2);
    }

    private static void prepare(FairOrder x, int[][] terms) {
        commitAll(x, terms);
        openAll(x, terms);
    }

    // Buys of one good at price 1: for tests where the terms do not matter.
    private static int[][] plainTerms(int n) {
        int[][] terms = new int[n][];
        for (int i = 0; i < n; i++) {
            terms[i] = new int[] {0, BUY, 1, 1};
        }
        return terms;
    }

    // times[call][node]; -1: the node tells none.
    private static FairOrder heardBlock(int[][] times) {
        FairOrder x = new FairOrder();
        x.account(0, 0);
        commitAll(x, plainTerms(times.length));
        for (int call = 0; call < times.length; call++) {
            for (int node = 0; node < times[call].length; node++) {
                if (times[call][node] >= 0) {
                    due("hear", x.hear(node, call, times[call][node]), 1);
                }
            }
        }
        openAll(x, plainTerms(times.length));
        return x;
    }

    private static void dueRow(String name, FairOrder x, int... numbers) {
        for (int i = 0; i < numbers.length; i++) {
            due(name + ": at(" + i + ")", x.at(i), numbers[i]);
        }
        due(name + ": at behind the last", x.at(numbers.length), NONE);
    }

    private static void dueHoldings(FairOrder x, int account, long money, long goods) {
        due("has(" + account + ", 0)", x.has(account, 0), money);
        due("has(" + account + ", 1)", x.has(account, 1), goods);
    }

    private static void dueNew(FairOrder x) {
        for (int what = 0; what <= 5; what++) {
            due("count(" + what + ")", x.count(what), 0);
        }
        for (int account = -2; account <= 8; account++) {
            dueHoldings(x, account, 0, 0);
        }
        due("at(0)", x.at(0), NONE);
        due("play", x.play(), WHEN);
        due("batch", x.batch(), WHEN);
        due("gain", x.gain(0, 0, 0), 0);
        due("done(0)", x.done(0), BAD);
        due("passed(0)", x.passed(0), BAD);
        due("heard(0)", x.heard(0), BAD);
        due("linked(0, 0)", x.linked(0, 0), BAD);
        due("of(0, 0)", x.of(0, 0), BAD);
        due("commit", x.commit(0, 0, 0), BAD);
        due("hear", x.hear(0, 0, 0), BAD);
        due("open", x.open(0, 0, 1, 1, 0), BAD);
        due("order", x.order(0, 0), WHEN);
    }

    private static void promise1NewObject() {
        promise = "1";
        dueNew(new FairOrder());
        FairOrder used = new FairOrder();
        used.account(5, 6);
        due("accounts of another object", new FairOrder().count(0), 0);
    }

    private static void promise2Clear() {
        promise = "2";
        FairOrder x = new FairOrder();
        due("clear of a new object", x.clear(), 0);
        dueNew(x);
        x.account(100, 100);
        x.account(200, 200);
        x.pool(1000, 1000);
        x.next();
        x.next();
        x.next();
        x.commit(0, 7, 1);
        x.commit(1, 0, x.seal(SELL, 1, 1, 0));
        x.hear(0, 0, 3);
        x.next();
        x.open(1, SELL, 1, 1, 0);
        x.next();
        due("order", x.order(0, 0), 1);
        due("play", x.play(), 0);
        due("the pot", x.has(-2, 0), 7);
        due("clear", x.clear(), 2);
        dueNew(x);
        due("clear again", x.clear(), 0);

        due("account after clear", x.account(9, 8), 0);
        dueHoldings(x, 0, 9, 8);
        due("commit after clear", x.commit(0, 0, 0), 0);
        due("hear after clear", x.hear(0, 0, 4), 1);
        due("of after clear", x.of(0, 1), 0);
    }

    private static void promise3Account() {
        promise = "3";
        FairOrder x = new FairOrder();
        due("account(-1, 0)", x.account(-1, 0), BAD);
        due("account(0, -1)", x.account(0, -1), BAD);
        due("money above", x.account(MOST + 1, 0), BAD);
        due("goods above", x.account(0, MOST + 1), BAD);
        due("least long", x.account(Long.MIN_VALUE, 0), BAD);
        due("greatest long", x.account(0, Long.MAX_VALUE), BAD);
        due("refusals make none", x.count(0), 0);
        due("account(0, 0)", x.account(0, 0), 0);
        due("greatest", x.account(MOST, MOST), 1);
        dueHoldings(x, 0, 0, 0);
        dueHoldings(x, 1, MOST, MOST);
        for (int i = 2; i < 8; i++) {
            due("account " + i, x.account(i, 2 * i), i);
        }
        due("a ninth", x.account(1, 1), FULL);
        due("BAD before FULL", x.account(-1, 1), BAD);
        due("count(0)", x.count(0), 8);
        dueHoldings(x, 7, 7, 14);
        dueHoldings(x, 8, 0, 0);
        FairOrder late = new FairOrder();
        late.next();
        due("in PHASE 1", late.account(1, 2), 0);
        late.next();
        due("in PHASE 2", late.account(3, 4), 1);
    }

    private static void promise4Pool() {
        promise = "4";
        FairOrder x = new FairOrder();
        due("pool(5, 6)", x.pool(5, 6), 1);
        dueHoldings(x, -1, 5, 6);
        due("pool(-1, 0)", x.pool(-1, 0), BAD);
        due("pool(0, -1)", x.pool(0, -1), BAD);
        due("money above", x.pool(MOST + 1, 0), BAD);
        due("goods above", x.pool(0, MOST + 1), BAD);
        dueHoldings(x, -1, 5, 6);
        due("greatest", x.pool(MOST, MOST), 1);
        dueHoldings(x, -1, MOST, MOST);
        due("set again, not added", x.pool(3, 0), 1);
        dueHoldings(x, -1, 3, 0);
        x.next();
        due("in PHASE 1", x.pool(1, 2), 1);
        x.next();
        due("in PHASE 2", x.pool(0, 0), 1);
        dueHoldings(x, -1, 0, 0);
    }

    private static void promise5Seal() {
        promise = "5";
        FairOrder x = new FairOrder();
        due("seal(0, 12, 5, 7)", x.seal(0, 12, 5, 7), 3754317382686054318L);
        due("seal(1, 9, 4, 3)", x.seal(1, 9, 4, 3), -6715847581856111835L);
        int[] salts = {0, 1, -1, 99999999, Integer.MAX_VALUE, Integer.MIN_VALUE};
        for (int salt : salts) {
            dueSeal(x, 0, 1, 1, salt);
            dueSeal(x, 1, 1000, 1000, salt);
            dueSeal(x, 1, 17, 23, salt);
        }
        due("side -1", x.seal(-1, 1, 1, 1), 0);
        due("side 2", x.seal(2, 1, 1, 1), 0);
        due("price 0", x.seal(0, 0, 1, 1), 0);
        due("price 1001", x.seal(0, 1001, 1, 1), 0);
        due("amount 0", x.seal(0, 1, 0, 1), 0);
        due("amount 1001", x.seal(0, 1, 1001, 1), 0);
        x.next();
        due("in PHASE 1", x.seal(0, 12, 5, 7), 3754317382686054318L);
    }

    private static void dueSeal(FairOrder x, int side, int price, int amount, int salt) {
        java.math.BigInteger v = java.math.BigInteger.valueOf(salt);
        v = v.multiply(java.math.BigInteger.valueOf(31)).add(java.math.BigInteger.valueOf(side));
        v = v.multiply(java.math.BigInteger.valueOf(1009)).add(java.math.BigInteger.valueOf(price));
        v = v.multiply(java.math.BigInteger.valueOf(1013)).add(java.math.BigInteger.valueOf(amount));
        long product = v.multiply(new java.math.BigInteger("6364136223846793005")).longValue();
        due("seal with salt " + salt, x.seal(side, price, amount, salt), product ^ (product >>> 29));
    }

    private static void promise6Commit() {
        promise = "6";
        FairOrder x = new FairOrder();
        x.account(3000000, 0);
        x.account(10, 0);
        due("no such account", x.commit(2, 0, 0), BAD);
        due("account -1", x.commit(-1, 0, 0), BAD);
        due("deposit -1", x.commit(0, -1, 0), BAD);
        due("deposit above", x.commit(0, 1000001, 0), BAD);
        due("more than it has", x.commit(1, 11, 0), SHORT);
        due("refusals make none", x.count(1), 0);
        dueHoldings(x, 1, 10, 0);
        due("all it has", x.commit(1, 10, 5), 0);
        dueHoldings(x, 1, 0, 0);
        due("it has none", x.commit(1, 1, 5), SHORT);
        due("nothing of none", x.commit(1, 0, 5), 1);
        due("greatest deposit", x.commit(0, 1000000, Long.MIN_VALUE), 2);
        dueHoldings(x, 0, 2000000, 0);
        for (int i = 3; i < 16; i++) {
            due("commit " + i, x.commit(0, 1, i), i);
        }
        due("a seventeenth", x.commit(0, 1, 0), FULL);
        due("FULL before SHORT", x.commit(1, 1, 0), FULL);
        due("BAD before FULL", x.commit(5, 1, 0), BAD);
        dueHoldings(x, 0, 2000000 - 13, 0);
        due("count(1)", x.count(1), 16);
        x.next();
        due("WHEN before FULL", x.commit(0, 1, 0), WHEN);
        due("BAD before WHEN", x.commit(-1, 1, 0), BAD);
        x.next();
        due("in PHASE 2", x.commit(0, 1, 0), WHEN);
        x.next();
        due("in a new BLOCK", x.commit(0, 1, 0), 0);
        FairOrder y = new FairOrder();
        y.account(0, 0);
        y.next();
        due("WHEN before SHORT", y.commit(0, 1, 0), WHEN);
    }

    private static void promise7Hear() {
        promise = "7";
        FairOrder x = new FairOrder();
        x.account(0, 0);
        x.commit(0, 0, 0);
        due("no such call", x.hear(0, 1, 0), BAD);
        due("call -1", x.hear(0, -1, 0), BAD);
        due("node -1", x.hear(-1, 0, 0), BAD);
        due("node 5", x.hear(5, 0, 0), BAD);
        due("time -1", x.hear(0, 0, -1), BAD);
        due("time above", x.hear(0, 0, 1000001), BAD);
        due("time 0", x.hear(0, 0, 0), 1);
        due("it told before", x.hear(0, 0, 5), OTHER);
        due("the same again", x.hear(0, 0, 0), OTHER);
        due("BAD before OTHER", x.hear(0, 0, -1), BAD);
        due("greatest time", x.hear(4, 0, 1000000), 1);
        due("greatest time again", x.hear(4, 0, 1000000), OTHER);
        x.commit(0, 0, 0);
        due("another call", x.hear(0, 1, 7), 1);
        x.next();
        due("WHEN before OTHER", x.hear(0, 0, 1), WHEN);
        due("in PHASE 1", x.hear(1, 0, 1), WHEN);
        due("BAD before WHEN", x.hear(5, 0, 1), BAD);
        x.next();
        due("in PHASE 2", x.hear(1, 0, 1), WHEN);
        due("late ones changed nothing", x.heard(0), NONE);
        x.next();
        due("no calls in a new BLOCK", x.hear(1, 0, 1), BAD);
        x.commit(0, 0, 0);
        due("an earlier BLOCK's times are gone", x.hear(0, 0, 1), 1);
    }

    private static void promise8Open() {
        promise = "8";
        FairOrder x = new FairOrder();
        x.account(100, 0);
        x.commit(0, 30, x.seal(BUY, 1000, 1, -4));
        x.commit(0, 20, x.seal(SELL, 1, 1000, 4));
        dueHoldings(x, 0, 50, 0);
        due("in PHASE 0", x.open(0, BUY, 1000, 1, -4), WHEN);
        due("BAD before WHEN", x.open(0, BUY, 0, 1, -4), BAD);
        x.next();
        due("call 2", x.open(2, BUY, 1000, 1, -4), BAD);
        due("call -1", x.open(-1, BUY, 1000, 1, -4), BAD);
        due("side 2", x.open(0, 2, 1000, 1, -4), BAD);
        due("side -1", x.open(0, -1, 1000, 1, -4), BAD);
        due("price 0", x.open(0, BUY, 0, 1, -4), BAD);
        due("price 1001", x.open(0, BUY, 1001, 1, -4), BAD);
        due("amount 0", x.open(0, BUY, 1000, 0, -4), BAD);
        due("amount 1001", x.open(0, BUY, 1000, 1001, -4), BAD);
        due("another salt", x.open(0, BUY, 1000, 1, 4), OTHER);
        due("another side", x.open(0, SELL, 1000, 1, -4), OTHER);
        due("another price", x.open(0, BUY, 999, 1, -4), OTHER);
        due("another amount", x.open(0, BUY, 1000, 2, -4), OTHER);
        due("not opened by refusals", x.count(3), 0);
        dueHoldings(x, 0, 50, 0);
        due("open", x.open(0, BUY, 1000, 1, -4), 1);
        dueHoldings(x, 0, 80, 0);
        due("again", x.open(0, BUY, 1000, 1, -4), WHEN);
        due("WHEN before OTHER", x.open(0, BUY, 1000, 1, 4), WHEN);
        dueHoldings(x, 0, 80, 0);
        x.next();
        due("in PHASE 2", x.open(1, SELL, 1, 1000, 4), WHEN);
        due("the pot", x.has(-2, 0), 20);
        dueHoldings(x, 0, 80, 0);
        zeroSealIsNotASealOfWrongTerms();
    }

    private static void zeroSealIsNotASealOfWrongTerms() {
        FairOrder x = new FairOrder();
        x.account(0, 0);
        x.commit(0, 0, 0);
        x.next();
        due("seal 0 with wrong terms", x.open(0, BUY, 0, 0, 0), BAD);
    }

    private static void promise9Next() {
        promise = "9";
        FairOrder x = new FairOrder();
        x.account(100, 50);
        x.pool(7, 8);
        x.commit(0, 10, x.seal(SELL, 1, 1, 0));
        x.commit(0, 5, 1);
        x.commit(0, 6, 1);
        due("to PHASE 1", x.next(), 1);
        due("the pot in PHASE 1", x.has(-2, 0), 0);
        x.open(0, SELL, 1, 1, 0);
        due("to PHASE 2", x.next(), 2);
        due("the pot in PHASE 2", x.has(-2, 0), 11);
        dueHoldings(x, 0, 89, 50);
        x.order(0, 0);
        x.play();
        due("a new BLOCK", x.next(), 0);
        due("no calls", x.count(1), 0);
        due("none opened", x.count(3), 0);
        due("ended", x.count(4), 1);
        due("no order", x.count(5), 0);
        due("nothing ordered", x.at(0), NONE);
        due("no call", x.done(0), BAD);
        dueHoldings(x, 0, 89, 50);
        dueHoldings(x, -1, 7, 8);
        due("the pot stays", x.has(-2, 0), 11);
        x.commit(0, 9, 1);
        due("nothing played", x.done(0), NONE);
        due("nothing passed", x.passed(0), NONE);
        due("not opened", x.of(0, 1), 0);
        x.next();
        x.next();
        due("the pot grows", x.has(-2, 0), 20);
        due("none made in this BLOCK", x.play(), WHEN);
        due("an order of none", x.order(3, 0), 0);
        due("played again in a new BLOCK", x.play(), 0);
        due("the next BLOCK", x.next(), 0);
        due("ended", x.count(4), 2);
    }

    private static void promise10OrderRefusals() {
        promise = "10";
        FairOrder x = new FairOrder();
        due("kind 5", x.order(5, 0), BAD);
        due("kind -1", x.order(-1, 0), BAD);
        for (int kind = 0; kind <= 4; kind++) {
            due("in PHASE 0", x.order(kind, 0), WHEN);
        }
        x.next();
        due("in PHASE 1", x.order(0, 0), WHEN);
        x.next();
        due("kind 5 in PHASE 2", x.order(5, 0), BAD);
        due("kind -1 in PHASE 2", x.order(-1, 0), BAD);
        due("refusals make none", x.play(), WHEN);
        for (int kind = 0; kind <= 4; kind++) {
            due("an order of none", x.order(kind, 9), 0);
        }
        due("an order of none is played", x.play(), 0);
    }

    private static void promise10ByNumberAndPrice() {
        promise = "10 (0, 1)";
        FairOrder x = new FairOrder();
        x.account(0, 0);
        int[] prices = {5, 9, 5, 1000, 9, 1, 7};
        for (int i = 0; i < prices.length; i++) {
            x.commit(0, 0, x.seal(i % 2, prices[i], 1, 0));
        }
        x.next();
        for (int i = 0; i < prices.length - 1; i++) {
            due("open", x.open(i, i % 2, prices[i], 1, 0), 1);
        }
        x.next();
        due("order by numbers", x.order(0, 77), 6);
        dueRow("by numbers", x, 0, 1, 2, 3, 4, 5);
        due("order by price", x.order(1, 77), 6);
        dueRow("by price", x, 3, 1, 4, 0, 2, 5);
        due("a refused order changes nothing", x.order(9, 0), BAD);
        dueRow("by price", x, 3, 1, 4, 0, 2, 5);
        due("by numbers again", x.order(0, 0), 6);
        dueRow("by numbers again", x, 0, 1, 2, 3, 4, 5);
    }

    private static void promise10ByHeard() {
        promise = "10 (2)";
        FairOrder x = heardBlock(new int[][] {
            {1, 1, -1, -1, -1},
            {9, 9, 9, 1, 1},
            {-1, 2, 1000000, -1, 3},
            {50, 40, 30, 20, 10},
            {0, 0, 9, 100, 100},
            {-1, -1, -1, -1, -1},
            {8, 0, 900, 7, 800},
        });
        due("order", x.order(2, 5), 7);
        dueRow("by heard", x, 6, 1, 4, 3, 2, 0, 5);
    }

    private static void promise10Fair() {
        promise = "10 (3)";
        FairOrder x = heardBlock(new int[][] {
            {9, 9, 9, 9, 9},
            {5, 5, 5, -1, -1},
            {1, 2, 3, 100, 100},
        });
        due("order", x.order(3, 5), 3);
        dueRow("a chain", x, 2, 1, 0);
        FairOrder alike = heardBlock(new int[][] {
            {4, 4, -1, -1, -1},
            {4, 4, -1, -1, -1},
            {3, 5, -1, -1, -1},
            {-1, -1, -1, -1, -1},
        });
        alike.order(3, 0);
        dueRow("ties by numbers", alike, 0, 1, 2, 3);
        FairOrder alone = heardBlock(new int[][] {
            {-1, -1, -1, -1, -1},
            {-1, -1, 1000000, -1, -1},
        });
        alone.order(3, 0);
        dueRow("heard of alone", alone, 1, 0);
        FairOrder free = heardBlock(new int[][] {
            {9, -1, -1, -1, -1},
            {-1, -1, -1, -1, -1},
            {5, 6, -1, -1, -1},
        });
        free.order(3, 0);
        dueRow("the least number of those free", free, 2, 0, 1);
    }

    private static void promise10FairKnots() {
        promise = "10 (3)";
        // Nodes 0 to 2 make 0, 2, 3 a knot (0 before 2 before 3 before 0); 1 is behind, 4 before all.
        FairOrder x = heardBlock(new int[][] {
            {10, 30, 20, -1, -1},
            {90, 90, 90, -1, -1},
            {20, 10, 30, -1, -1},
            {30, 20, 10, -1, -1},
            {5, 5, 5, -1, -1},
        });
        due("order", x.order(3, 0), 5);
        dueRow("a knot in the middle", x, 4, 0, 2, 3, 1);
        // Call 0 is loose; 1, 3, 4 are a knot behind 2.
        FairOrder y = heardBlock(new int[][] {
            {50, 50, -1, 1, 1},
            {20, 40, 30, 50, 50},
            {10, 10, 10, 50, 50},
            {30, 20, 40, 50, 50},
            {40, 30, 20, 50, 50},
        });
        due("1 to 3", y.linked(1, 3), 1);
        due("3 to 4", y.linked(3, 4), 1);
        due("4 to 1", y.linked(4, 1), 1);
        due("2 to 1", y.linked(2, 1), 1);
        due("1 to 2", y.linked(1, 2), 0);
        due("order", y.order(3, 0), 5);
        dueRow("behind another one", y, 2, 1, 3, 4, 0);
        // 0, 1, 3 are a knot, 2 is loose: the knot stays together.
        FairOrder z = heardBlock(new int[][] {
            {10, 30, 20, -1, -1},
            {20, 10, 30, -1, -1},
            {5, 40, 40, 1, -1},
            {30, 20, 10, -1, -1},
        });
        due("2 to 0", z.linked(2, 0), 0);
        due("0 to 2", z.linked(0, 2), 0);
        due("order", z.order(3, 0), 4);
        dueRow("a knot stays together", z, 0, 1, 3, 2);
        fairOrderOfAFullBlock();
        linksLeadThroughOpenedCallsAlone();
    }

    private static void fairOrderOfAFullBlock() {
        int[][] times = new int[16][];
        for (int i = 0; i < 16; i++) {
            times[i] = new int[] {100 - i, 100 - i, 100 - i, i, -1};
        }
        FairOrder x = heardBlock(times);
        due("15 to 0", x.linked(15, 0), 1);
        due("0 to 15", x.linked(0, 15), 0);
        due("order", x.order(3, 0), 16);
        dueRow("all sixteen", x, 15, 14, 13, 12, 11, 10, 9, 8, 7, 6, 5, 4, 3, 2, 1, 0);
        due("order", x.order(2, 0), 16);
        dueRow("all sixteen by heard", x, 15, 14, 13, 12, 11, 10, 9, 8, 7, 6, 5, 4, 3, 2, 1, 0);
    }

    private static void linksLeadThroughOpenedCallsAlone() {
        FairOrder x = new FairOrder();
        x.account(0, 0);
        commitAll(x, plainTerms(3));
        // 2 is ahead of 1, and 1 of 0; 2 and 0 are alike.
        x.hear(0, 2, 1);
        x.hear(0, 1, 2);
        x.hear(1, 1, 1);
        x.hear(1, 0, 2);
        x.hear(2, 1, 5);
        x.hear(2, 2, 4);
        x.hear(3, 1, 4);
        x.hear(3, 0, 5);
        x.hear(4, 0, 1);
        x.hear(4, 2, 1);
        x.next();
        x.open(0, BUY, 1, 1, 0);
        x.open(2, BUY, 1, 1, 2);
        due("2 to 0 without 1", x.linked(2, 0), 0);
        due("1 is not opened", x.linked(2, 1), BAD);
        x.next();
        due("order", x.order(3, 0), 2);
        dueRow("without 1", x, 0, 2);
    }

    private static void promise10ByLot() {
        promise = "10 (4)";
        long[] seeds = {0, 1, -1, 42, Long.MAX_VALUE, Long.MIN_VALUE, 1234567890123456789L};
        for (int n = 0; n <= 16; n++) {
            FairOrder x = new FairOrder();
            x.account(0, 0);
            prepare(x, plainTerms(n));
            for (long seed : seeds) {
                due("order", x.order(4, seed), n);
                dueRow("by lot", x, lot(n, seed));
            }
        }
        FairOrder gaps = new FairOrder();
        gaps.account(0, 0);
        commitAll(gaps, plainTerms(6));
        gaps.next();
        int[] opened = {1, 2, 4, 5};
        for (int i : opened) {
            gaps.open(i, BUY, 1, 1, i);
        }
        gaps.next();
        due("order", gaps.order(4, 3), 4);
        int[] places = lot(4, 3);
        dueRow("by lot, with gaps", gaps,
            opened[places[0]], opened[places[1]], opened[places[2]], opened[places[3]]);
    }

    private static int[] lot(int n, long seed) {
        int[] row = new int[n];
        for (int i = 0; i < n; i++) {
            row[i] = i;
        }
        long x = seed;
        for (int p = n - 1; p >= 1; p--) {
            x = x * 6364136223846793005L + 1442695040888963407L;
            int q = (int) Long.remainderUnsigned(x >>> 33, p + 1);
            int kept = row[p];
            row[p] = row[q];
            row[q] = kept;
        }
        return row;
    }

    private static void promise11At() {
        promise = "11";
        FairOrder x = new FairOrder();
        x.account(0, 0);
        prepare(x, plainTerms(16));
        due("none was made", x.at(0), NONE);
        x.order(0, 0);
        due("at(0)", x.at(0), 0);
        due("at(15)", x.at(15), 15);
        due("at(16)", x.at(16), NONE);
        due("at(-1)", x.at(-1), NONE);
        due("at(greatest)", x.at(Integer.MAX_VALUE), NONE);
        due("at(least)", x.at(Integer.MIN_VALUE), NONE);
        x.play();
        due("when played", x.at(3), 3);
        x.next();
        due("in a new BLOCK", x.at(0), NONE);
    }

    private static void promise12Linked() {
        promise = "12";
        FairOrder x = heardBlock(new int[][] {
            {1, 2, 3, -1, -1},
            {2, 3, 1, -1, -1},
            {3, 1, 2, -1, -1},
            {7, 7, 7, -1, -1},
            {7, 7, 7, -1, -1},
        });
        due("0 to 1, ahead", x.linked(0, 1), 1);
        due("1 to 0, over 2", x.linked(1, 0), 1);
        due("0 to 3", x.linked(0, 3), 1);
        due("3 to 0", x.linked(3, 0), 0);
        due("3 to 4, alike", x.linked(3, 4), 0);
        due("4 to 3, alike", x.linked(4, 3), 0);
        due("3 to itself", x.linked(3, 3), 0);
        due("0 to itself, in a knot", x.linked(0, 0), 1);
        due("call 5", x.linked(0, 5), BAD);
        due("call 5", x.linked(5, 0), BAD);
        due("call -1", x.linked(-1, 0), BAD);
        due("call -1", x.linked(0, -1), BAD);
        FairOrder y = new FairOrder();
        y.account(0, 0);
        commitAll(y, plainTerms(2));
        y.hear(0, 0, 1);
        due("in PHASE 0", y.linked(0, 1), BAD);
        y.next();
        y.open(0, BUY, 1, 1, 0);
        due("b is not opened", y.linked(0, 1), BAD);
        due("a is not opened", y.linked(1, 0), BAD);
        y.open(1, BUY, 1, 1, 1);
        due("in PHASE 1", y.linked(0, 1), 1);
    }

    private static void promise13Heard() {
        promise = "13";
        FairOrder x = new FairOrder();
        x.account(0, 0);
        x.commit(0, 0, 0);
        due("of none", x.heard(0), NONE);
        x.hear(4, 0, 1000000);
        x.hear(1, 0, 5);
        due("of two", x.heard(0), NONE);
        x.hear(0, 0, 1000000);
        due("of three", x.heard(0), 1000000);
        x.hear(3, 0, 0);
        due("of four", x.heard(0), 1000000);
        x.hear(2, 0, 5);
        due("of five", x.heard(0), 5);
        due("call 1", x.heard(1), BAD);
        due("call -1", x.heard(-1), BAD);
        x.commit(0, 0, 0);
        x.hear(0, 1, 0);
        x.hear(1, 1, 0);
        x.hear(2, 1, 0);
        due("time 0", x.heard(1), 0);
        x.next();
        due("in PHASE 1", x.heard(0), 5);
        x.next();
        due("in PHASE 2, not opened", x.heard(0), 5);
        x.next();
        due("in a new BLOCK", x.heard(0), BAD);
    }

    private static void promise14Play() {
        promise = "14";
        FairOrder x = new FairOrder();
        x.account(1000, 0);
        x.account(0, 50);
        x.pool(1000, 100);
        due("none made", x.play(), WHEN);
        prepare(x, new int[][] {
            {0, BUY, 12, 10},   // 1000 * 10 / 90, up: 112
            {1, SELL, 12, 10},  // 1112 * 10 / 100 = 111.2, down: 111, below 120
            {1, SELL, 11, 10},  // 111 is not below 110
            {0, BUY, 1, 1},     // 1001 / 99, up: 11, above 1
        });
        due("none made", x.play(), WHEN);
        x.order(0, 0);
        due("play", x.play(), 2);
        dueHoldings(x, 0, 888, 10);
        dueHoldings(x, 1, 111, 40);
        dueHoldings(x, -1, 1001, 100);
        due("passed(0)", x.passed(0), 112);
        due("passed(1)", x.passed(1), 0);
        due("passed(2)", x.passed(2), 111);
        due("play again", x.play(), WHEN);
        due("batch behind play", x.batch(), WHEN);
        x.order(1, 0);
        due("with a new order", x.play(), WHEN);
        dueHoldings(x, 0, 888, 10);
        due("done stays", x.done(2), 10);
    }

    private static void promise14PlayEdges() {
        promise = "14";
        dueBuy("n is G", 1000, 10, 1000, 10, 1000, -1);
        dueBuy("n is below G by 1", 1000000, 11, 10, 10, 10000, -1);
        dueBuy("all it has", 100, 11, 1000, 10, 1000, 1000);
        dueBuy("price times n", 100, 11, 100, 10, 100000, 1000);
        dueBuy("above price times n", 100, 11, 99, 10, 100000, -1);
        dueBuy("one short", 100, 11, 1000, 10, 999, -1);
        dueBuy("for nothing", 0, 11, 1, 10, 0, 0);
        dueBuy("rounded up", 10, 4, 4, 1, 4, 4);
        dueBuy("rounded up above the price", 10, 4, 3, 1, 100, -1);
        dueBuy("greatest numbers", MOST, MOST, 1000, 1000, MOST, 1001);
        dueSell("all it has", 1000, 0, 100, 10, 10, 1000);
        dueSell("one short", 1000, 0, 1, 10, 9, -1);
        dueSell("price times n", 1000, 10, 50, 10, 10, 500);
        dueSell("below price times n", 1000, 10, 51, 10, 10, -1);
        dueSell("rounded down", 11, 1, 5, 1, 1, 5);
        dueSell("rounded down below the price", 11, 1, 6, 1, 1, -1);
        dueSell("an empty pool", 0, 0, 1, 1, 1, -1);
        FairOrder x = new FairOrder();
        x.next();
        x.next();
        x.order(0, 0);
        x.next();
        due("an order of an earlier BLOCK", x.play(), WHEN);
    }

    // want: the money that passes; -1: it is left.
    private static void dueBuy(String name, long m, long g, int price, int n, long money, long want) {
        FairOrder x = new FairOrder();
        x.account(money, 0);
        x.pool(m, g);
        prepare(x, new int[][] {{0, BUY, price, n}});
        x.order(0, 0);
        due("a buy, " + name, x.play(), want < 0 ? 0 : 1);
        due("done, " + name, x.done(0), want < 0 ? 0 : n);
        due("passed, " + name, x.passed(0), Math.max(want, 0));
        dueHoldings(x, 0, money - Math.max(want, 0), want < 0 ? 0 : n);
        dueHoldings(x, -1, m + Math.max(want, 0), want < 0 ? g : g - n);
    }

    private static void dueSell(String name, long m, long g, int price, int n, long goods, long want) {
        FairOrder x = new FairOrder();
        x.account(0, goods);
        x.pool(m, g);
        prepare(x, new int[][] {{0, SELL, price, n}});
        x.order(0, 0);
        due("a sell, " + name, x.play(), want < 0 ? 0 : 1);
        due("done, " + name, x.done(0), want < 0 ? 0 : n);
        due("passed, " + name, x.passed(0), Math.max(want, 0));
        dueHoldings(x, 0, Math.max(want, 0), want < 0 ? goods : goods - n);
        dueHoldings(x, -1, m - Math.max(want, 0), want < 0 ? g : g + n);
    }

    private static void promise15Batch() {
        promise = "15";
        FairOrder x = new FairOrder();
        x.account(1000, 0);
        x.account(0, 100);
        x.pool(77, 88);
        due("none made", x.batch(), WHEN);
        prepare(x, new int[][] {{0, BUY, 9, 10}, {1, SELL, 4, 10}});
        due("none made", x.batch(), WHEN);
        x.order(0, 0);
        due("the least of the best prices", x.batch(), 4);
        due("done(0)", x.done(0), 10);
        due("done(1)", x.done(1), 10);
        due("passed(0)", x.passed(0), 40);
        due("passed(1)", x.passed(1), 40);
        dueHoldings(x, 0, 960, 10);
        dueHoldings(x, 1, 40, 90);
        dueHoldings(x, -1, 77, 88);
        due("again", x.batch(), WHEN);
        due("play behind it", x.play(), WHEN);
        x.order(1, 0);
        due("with a new order", x.batch(), WHEN);
        dueOnePrice("price 1", 1, 1, 1);
        dueOnePrice("price 1000", 1000, 1000, 1000);
        dueOnePrice("a sell above", 999, 1000, NONE);
    }

    private static void dueOnePrice(String name, int buyPrice, int sellPrice, int want) {
        FairOrder x = new FairOrder();
        x.account(1000, 1);
        prepare(x, new int[][] {{0, BUY, buyPrice, 1}, {0, SELL, sellPrice, 1}});
        x.order(0, 0);
        due("batch, " + name, x.batch(), want);
        due("done, " + name, x.done(0), want == NONE ? 0 : 1);
        dueHoldings(x, 0, 1000, 1);
    }

    private static void promise15BatchParts() {
        promise = "15";
        // At 5: buys 6 + 6 + 6, sells 8: in the order 2, 0, 1 the second is done in part.
        FairOrder x = new FairOrder();
        x.account(1000, 0);
        x.account(1000, 8);
        prepare(x, new int[][] {
            {0, BUY, 6, 6}, {0, BUY, 5, 6}, {1, BUY, 7, 6}, {1, SELL, 5, 8},
        });
        x.order(1, 0);
        due("batch", x.batch(), 5);
        due("the first one whole", x.done(2), 6);
        due("the last one in part", x.done(0), 2);
        due("passed in part", x.passed(0), 10);
        due("left", x.done(1), 0);
        due("left passes none", x.passed(1), 0);
        due("the lesser side whole", x.done(3), 8);
        due("passed of a sell", x.passed(3), 40);
        dueHoldings(x, 0, 990, 2);
        dueHoldings(x, 1, 1010, 6);

        // More sells than buys: sells are done in the order until 5 is reached.
        FairOrder y = new FairOrder();
        y.account(1000, 0);
        y.account(0, 100);
        prepare(y, new int[][] {
            {1, SELL, 3, 3}, {0, BUY, 3, 5}, {1, SELL, 2, 3}, {1, SELL, 1, 3},
        });
        y.order(0, 0);
        due("batch", y.batch(), 2);
        due("too dear a sell", y.done(0), 0);
        due("the buy", y.done(1), 5);
        due("the first sell", y.done(2), 3);
        due("the second sell", y.done(3), 2);
    }

    private static void promise15BatchMeans() {
        promise = "15";
        // Money 30 is for 10 at 3, not for 10 + 5: at 2 both buys take part.
        FairOrder x = new FairOrder();
        x.account(30, 0);
        x.account(0, 15);
        prepare(x, new int[][] {{0, BUY, 9, 10}, {0, BUY, 9, 5}, {1, SELL, 2, 15}});
        x.order(0, 0);
        due("the means set the price", x.batch(), 2);
        dueHoldings(x, 0, 0, 15);
        dueHoldings(x, 1, 30, 0);

        // At 3 the money is for the first buy alone.
        FairOrder w = new FairOrder();
        w.account(30, 0);
        w.account(0, 15);
        prepare(w, new int[][] {{0, BUY, 9, 10}, {0, BUY, 9, 5}, {1, SELL, 3, 15}});
        w.order(0, 0);
        due("all its buys count", w.batch(), 3);
        due("done(0)", w.done(0), 10);
        due("done(1)", w.done(1), 0);
        due("done(2)", w.done(2), 10);
        dueHoldings(w, 0, 0, 10);

        // At 3 the first buy is too much, a later lesser one is not.
        FairOrder y = new FairOrder();
        y.account(29, 0);
        y.account(0, 15);
        prepare(y, new int[][] {{0, BUY, 9, 10}, {0, BUY, 9, 5}, {1, SELL, 3, 15}});
        y.order(0, 0);
        due("the first is left", y.batch(), 3);
        due("done(0)", y.done(0), 0);
        due("done(1)", y.done(1), 5);

        // Goods 7 are for 5 and 2, not for 5 and 3; the sold goods are not there for others.
        FairOrder z = new FairOrder();
        z.account(0, 7);
        z.account(1000, 0);
        prepare(z, new int[][] {
            {0, SELL, 1, 5}, {0, SELL, 1, 3}, {0, SELL, 1, 2}, {1, BUY, 1, 10}, {1, SELL, 1, 1},
        });
        z.order(0, 0);
        due("batch", z.batch(), 1);
        due("done(0)", z.done(0), 5);
        due("done(1)", z.done(1), 0);
        due("done(2)", z.done(2), 2);
        due("done(3)", z.done(3), 7);
        due("done(4)", z.done(4), 0);
    }

    private static void promise15BatchNone() {
        promise = "15";
        FairOrder x = new FairOrder();
        x.account(100, 100);
        x.pool(50, 60);
        prepare(x, new int[][] {{0, BUY, 5, 1}, {0, SELL, 6, 1}});
        x.order(0, 0);
        due("done before", x.done(0), NONE);
        due("no volume", x.batch(), NONE);
        dueHoldings(x, 0, 100, 100);
        dueHoldings(x, -1, 50, 60);
        due("it was played", x.play(), WHEN);
        due("it was played", x.batch(), WHEN);
        due("done(0)", x.done(0), 0);
        due("passed(1)", x.passed(1), 0);
        due("gain", x.gain(0, 1, 1), 0);
        batchOfAFullBlock();
        FairOrder none = new FairOrder();
        none.next();
        none.next();
        none.order(0, 0);
        due("of no calls", none.batch(), NONE);
        due("again", none.batch(), WHEN);
    }

    private static void batchOfAFullBlock() {
        int[][] terms = new int[16][];
        for (int i = 0; i < 16; i++) {
            terms[i] = new int[] {i / 2, i % 2, 1000, 1000};
        }
        FairOrder x = new FairOrder();
        for (int i = 0; i < 8; i++) {
            x.account(1000000, 1000);
        }
        prepare(x, terms);
        x.order(4, 5);
        due("all sixteen", x.batch(), 1000);
        for (int i = 0; i < 16; i++) {
            due("done(" + i + ")", x.done(i), 1000);
            due("passed(" + i + ")", x.passed(i), 1000000);
            dueHoldings(x, i / 2, 1000000, 1000);
        }
    }

    private static void promise16And17DoneAndPassed() {
        promise = "16, 17";
        FairOrder x = new FairOrder();
        x.account(100, 0);
        x.pool(90, 10);
        x.commit(0, 0, x.seal(BUY, 50, 1, 0));
        x.commit(0, 0, 1);
        due("done(0), nothing played", x.done(0), NONE);
        due("passed(0), nothing played", x.passed(0), NONE);
        due("done(2), nothing played", x.done(2), BAD);
        due("passed(2), nothing played", x.passed(2), BAD);
        x.next();
        x.open(0, BUY, 50, 1, 0);
        x.next();
        x.order(0, 0);
        due("done(0), ordered", x.done(0), NONE);
        due("passed(0), ordered", x.passed(0), NONE);
        x.play();
        due("done(0)", x.done(0), 1);
        due("passed(0)", x.passed(0), 10);
        due("done of one not opened", x.done(1), 0);
        due("passed of one not opened", x.passed(1), 0);
        due("done(2)", x.done(2), BAD);
        due("passed(2)", x.passed(2), BAD);
        due("done(-1)", x.done(-1), BAD);
        due("passed(-1)", x.passed(-1), BAD);
        x.order(4, 9);
        due("done(0), ordered anew", x.done(0), 1);
        x.next();
        x.commit(0, 0, x.seal(BUY, 1, 1, 0));
        due("done in a new BLOCK", x.done(0), NONE);
        due("passed in a new BLOCK", x.passed(0), NONE);
        x.next();
        x.open(0, BUY, 1, 1, 0);
        x.next();
        x.order(0, 0);
        due("a call that is left", x.play(), 0);
        due("done of an earlier BLOCK is gone", x.done(0), 0);
        due("passed of an earlier BLOCK is gone", x.passed(0), 0);
    }

    private static void promise18Gain() {
        promise = "18";
        FairOrder x = new FairOrder();
        x.account(1000, 0);
        x.account(1000, 0);
        x.account(0, 100);
        x.pool(1000, 100);
        prepare(x, new int[][] {
            {0, BUY, 1000, 10},  // first: 112
            {1, BUY, 13, 10},    // first: 112; behind 0: 139, above 130
            {2, SELL, 1, 10},
        });
        due("none made", x.gain(0, 1, 0), 0);
        x.order(0, 0);
        due("to its own place", x.gain(1, 1, 0), 0);
        due("1 to the front, money", x.gain(1, 0, 0), -112);
        due("1 to the front, goods", x.gain(1, 0, 1), 10);
        // As it is 2 gets 1112 * 10 / 100 = 111; in front 1000 * 10 / 110 = 90.
        due("2 to the front", x.gain(2, 0, 0), -21);
        due("2 to the front, goods", x.gain(2, 0, 1), 0);
        // 2 gives 90: 0 pays 910 * 10 / 100 = 91 behind it, with 1 left or not.
        // 0 at the end: 1 pays 112, 2 gets 111, 0 pays 1001 * 10 / 90 = 112.
        due("0 to the end", x.gain(0, 2, 0), 0);
        // 0 behind 1: 1112 * 10 / 80 = 139.
        due("0 behind 1", x.gain(0, 1, 0), -27);
        due("what 2", x.gain(1, 0, 2), 0);
        due("what -1", x.gain(1, 0, -1), 0);
        due("place 3", x.gain(1, 3, 0), 0);
        due("place 3", x.gain(3, 0, 0), 0);
        due("place -1", x.gain(1, -1, 0), 0);
        due("place -1", x.gain(-1, 0, 0), 0);
        dueRow("the order is as it was", x, 0, 1, 2);
        dueHoldings(x, 0, 1000, 0);
        dueHoldings(x, 1, 1000, 0);
        dueHoldings(x, 2, 0, 100);
        dueHoldings(x, -1, 1000, 100);
        due("nothing was played", x.done(0), NONE);
        due("play", x.play(), 2);
        due("done of 1 is not a trial's", x.done(1), 0);
        due("passed of 2 is not a trial's", x.passed(2), 111);
        due("when played", x.gain(1, 0, 0), 0);
        x.order(1, 0);
        due("ordered anew when played", x.gain(0, 1, 0), 0);
        gainTakesOutAndPutsIn();
    }

    private static void gainTakesOutAndPutsIn() {
        promise = "18";
        // Put in, not changed for one another: 0 at place 2 makes the row 1, 2, 0.
        FairOrder x = new FairOrder();
        x.account(0, 1);
        x.account(100, 0);
        x.pool(100, 10);
        prepare(x, new int[][] {
            {0, SELL, 1, 1},   // 9 in front
            {1, BUY, 1000, 1}, // in front 100 / 9, up: 12
            {1, BUY, 1000, 1}, // then 112 / 8: 14
        });
        x.order(0, 0);
        // At the end 126 / 9 = 14; changed with 2 it would be the same, but 2 stands in front then.
        due("0 to the end", x.gain(0, 2, 0), 5);
        due("0 to the middle", x.gain(0, 1, 0), 2);

        // Row 0, 1, 2 with the last put in front: 2, 0, 1. Changed for one another: 2, 1, 0.
        FairOrder y = new FairOrder();
        y.account(11, 0);
        y.account(0, 5);
        y.pool(100, 10);
        prepare(y, new int[][] {
            {0, BUY, 11, 1},   // behind the sell of 1: 91 / 10, up: 10
            {1, SELL, 8, 1},   // 2, 0, 1: 101 / 11 = 9; 2, 1, 0: 91 / 12 = 7, left
            {1, SELL, 1, 1},
        });
        y.order(0, 0);
        // As it is: 0 is left (12), 1 gets 100 / 11 = 9, 2 gets 91 / 12 = 7: 16 in all.
        due("the last to the front", y.gain(2, 0, 0), 2);
        due("the last to the front, goods", y.gain(2, 0, 1), 0);
    }

    private static void promise19Has() {
        promise = "19";
        FairOrder x = new FairOrder();
        x.account(5, 6);
        x.pool(7, 8);
        x.commit(0, 3, 0);
        x.next();
        x.next();
        dueHoldings(x, 0, 2, 6);
        dueHoldings(x, -1, 7, 8);
        dueHoldings(x, -2, 3, 0);
        dueHoldings(x, 1, 0, 0);
        dueHoldings(x, 8, 0, 0);
        dueHoldings(x, -3, 0, 0);
        dueHoldings(x, Integer.MAX_VALUE, 0, 0);
        dueHoldings(x, Integer.MIN_VALUE, 0, 0);
        for (int account = -2; account <= 1; account++) {
            due("what 2", x.has(account, 2), 0);
            due("what -1", x.has(account, -1), 0);
        }
    }

    private static void promise20Of() {
        promise = "20";
        FairOrder x = new FairOrder();
        x.account(0, 0);
        x.account(0, 0);
        x.commit(1, 0, x.seal(SELL, 12, 34, 5));
        x.commit(0, 0, 0);
        due("account", x.of(0, 0), 1);
        due("opened", x.of(0, 1), 0);
        for (int what = 2; what <= 4; what++) {
            due("not opened, what " + what, x.of(0, what), NONE);
        }
        due("what 5", x.of(0, 5), BAD);
        due("what -1", x.of(0, -1), BAD);
        due("call 2", x.of(2, 0), BAD);
        due("call -1", x.of(-1, 0), BAD);
        x.next();
        x.open(0, SELL, 12, 34, 5);
        due("account", x.of(0, 0), 1);
        due("opened", x.of(0, 1), 1);
        due("side", x.of(0, 2), SELL);
        due("price", x.of(0, 3), 12);
        due("amount", x.of(0, 4), 34);
        due("what 5", x.of(0, 5), BAD);
        due("what -1", x.of(0, -1), BAD);
        due("account of 1", x.of(1, 0), 0);
        x.next();
        x.next();
        x.commit(0, 0, 0);
        due("an earlier BLOCK's terms are gone", x.of(0, 1), 0);
        due("an earlier BLOCK's price is gone", x.of(0, 3), NONE);
    }

    private static void dueCounts(FairOrder x, int... wants) {
        for (int what = 0; what < wants.length; what++) {
            due("count(" + what + ")", x.count(what), wants[what]);
        }
    }

    private static void promise21Count() {
        promise = "21";
        FairOrder x = new FairOrder();
        x.account(0, 0);
        x.account(0, 0);
        x.account(0, 0);
        commitAll(x, plainTerms(4));
        dueCounts(x, 3, 4, 0, 0, 0, 0);
        x.next();
        x.open(1, BUY, 1, 1, 1);
        x.open(3, BUY, 1, 1, 3);
        dueCounts(x, 3, 4, 1, 2, 0, 0);
        x.next();
        dueCounts(x, 3, 4, 2, 2, 0, 0);
        x.order(2, 0);
        dueCounts(x, 3, 4, 2, 2, 0, 2);
        x.play();
        dueCounts(x, 3, 4, 2, 2, 0, 2);
        x.next();
        dueCounts(x, 3, 0, 0, 0, 1, 0);
        due("count(6)", x.count(6), BAD);
        due("count(-1)", x.count(-1), BAD);
    }
}
