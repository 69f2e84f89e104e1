import java.math.BigInteger;
import java.util.ArrayList;
import java.util.List;

/**
 * For each sentence of the document that names a boundary case (too small, too large, empty, full, a
 * wrap-around, a refused call) a test of its own, in the document's order. A test's name is the sentence's words.
 */
public final class FairOrderEdges {
    private static final int NONE = -1, BAD = -2, FULL = -3, WHEN = -4, SHORT = -5, OTHER = -6;
    private static final int BUY = 0, SELL = 1;
    private static final int POOL = -1, POT = -2;
    private static final int LEAST_INT = Integer.MIN_VALUE, GREATEST_INT = Integer.MAX_VALUE;
    private static final long MOST = 1000000000L;
    private static final int LEFT = -1;

    private static int wrong = 0;
    private static int tests = 0;
    private static String sentence = "";

    /** One call of the class. */
    private interface Step {
        long on(FairOrder x);
    }

    public static void main(String[] args) {
        whatItIs();
        terms();
        orders();
        fairOrders();
        toPlay();
        atOnePrice();
        refusals();
        promises1To5();
        promises6To9();
        promises10To13();
        promises14To17();
        promises18To21();
        System.out.println(wrong == 0
            ? "all answers of " + tests + " sentences are as due" : wrong + " answers are not as due");
        if (wrong != 0) {
            System.exit(1);
        }
    }

    private static void test(String words, Runnable body) {
        sentence = words;
        tests++;
        int before = wrong;
        try {
            body.run();
        } catch (RuntimeException e) {
            due("no call ever throws, but " + e, 1, 0);
        }
        if (wrong != before) {
            System.out.println("does not hold: \"" + words + "\"");
        }
    }

    private static void due(String call, long got, long want) {
        if (got != want) {
            wrong++;
            System.out.println("\"" + sentence + "\": " + call + " answered " + got + ", due is " + want);
        }
    }

    private static void dueHoldings(FairOrder x, int account, long money, long goods) {
        due("has(" + account + ", 0)", x.has(account, 0), money);
        due("has(" + account + ", 1)", x.has(account, 1), goods);
    }

    private static void dueDone(FairOrder x, int... amounts) {
        for (int c = 0; c < amounts.length; c++) {
            due("done(" + c + ")", x.done(c), amounts[c]);
        }
    }

    private static void duePassed(FairOrder x, long... sums) {
        for (int c = 0; c < sums.length; c++) {
            due("passed(" + c + ")", x.passed(c), sums[c]);
        }
    }

    private static void dueOrder(FairOrder x, int kind, long seed, int... numbers) {
        due("order(" + kind + ", " + seed + ")", x.order(kind, seed), numbers.length);
        due("count(5)", x.count(5), numbers.length);
        for (int i = 0; i < numbers.length; i++) {
            due("order " + kind + ": at(" + i + ")", x.at(i), numbers[i]);
        }
        due("order " + kind + ": at(" + numbers.length + ")", x.at(numbers.length), NONE);
    }

    // ---- blocks to test with

    private static FairOrder withAccounts(long... moneyAndGoods) {
        FairOrder x = new FairOrder();
        for (int i = 0; i < moneyAndGoods.length; i += 2) {
            due("account", x.account(moneyAndGoods[i], moneyAndGoods[i + 1]), i / 2);
        }
        return x;
    }

    // A row of terms: account, side, price, amount. The salt is the call's number.
    private static void commitAll(FairOrder x, int[][] terms) {
        for (int i = 0; i < terms.length; i++) {
            int[] t = terms[i];
            due("commit of call " + i, x.commit(t[0], 0, x.seal(t[1], t[2], t[3], i)), i);
        }
    }

    private static void openAll(FairOrder x, int[][] terms) {
        due("next to PHASE 1", x.next(), 1);
        for (int i = 0; i < terms.length; i++) {
            int[] t = terms[i];
            due("open of call " + i, x.open(i, t[1], t[2], t[3], i), 1);
        }
        due("next to PHASE 2", x.next(), 2);
    }

    private static void prepare(FairOrder x, int[]... terms) {
        commitAll(x, terms);
        openAll(x, terms);
    }

    private static void prepareInOrder(FairOrder x, int[]... terms) {
        prepare(x, terms);
        due("order(0, 0)", x.order(0, 0), terms.length);
    }

    private static int[] call(int account, int side, int price, int amount) {
        return new int[] {account, side, price, amount};
    }

    // Buys of one good at price 1: for tests where the terms do not matter.
    private static int[][] plainTerms(int n) {
        int[][] terms = new int[n][];
        for (int i = 0; i < n; i++) {
            terms[i] = call(0, BUY, 1, 1);
        }
        return terms;
    }

    private static FairOrder plainBlock(int n) {
        FairOrder x = withAccounts(0, 0);
        prepare(x, plainTerms(n));
        return x;
    }

    // A call's times, by nodes; -1: the node tells none.
    private static int[] times(int... byNodes) {
        return byNodes;
    }

    private static FairOrder heardBlock(int[]... times) {
        FairOrder x = withAccounts(0, 0);
        commitAll(x, plainTerms(times.length));
        for (int c = 0; c < times.length; c++) {
            for (int node = 0; node < times[c].length; node++) {
                if (times[c][node] >= 0) {
                    due("hear", x.hear(node, c, times[c][node]), 1);
                }
            }
        }
        openAll(x, plainTerms(times.length));
        return x;
    }

    private static void toPhase(FairOrder x, int phase) {
        for (int turn = 0; turn < 3 && x.count(2) != phase; turn++) {
            x.next();
        }
    }

    // ---- What it is

    private static void whatItIs() {
        test("ACCOUNTS 0, 1, .., 8 at most", FairOrderEdges::eightAccountsAtMost);
        test("have MONEY and GOODS, each 0 and more", FairOrderEdges::sumsDownToZero);
        test("(64 bits)", FairOrderEdges::sumsOf64Bits);
        test("An object is used for at most 512 calls", FairOrderEdges::fiveHundredAndTwelveCalls);
    }

    private static void eightAccountsAtMost() {
        FairOrder x = new FairOrder();
        for (int i = 0; i < 8; i++) {
            due("account " + i, x.account(i, 10 + i), i);
        }
        due("one more", x.account(0, 0), FULL);
        due("count(0)", x.count(0), 8);
        for (int i = 0; i < 8; i++) {
            dueHoldings(x, i, i, 10 + i);
        }
        due("a CALL of the last one", x.commit(7, 7, 0), 0);
        due("a CALL of one more", x.commit(8, 0, 0), BAD);
    }

    private static void sumsDownToZero() {
        FairOrder x = withAccounts(0, 0, 1000, 0, 0, 10);
        dueHoldings(x, 0, 0, 0);
        x.pool(100, 11);
        prepareInOrder(x, call(1, BUY, 100, 10), call(2, SELL, 1, 10));
        due("play", x.play(), 2);
        dueHoldings(x, 1, 0, 10);
        dueHoldings(x, 2, 1000, 0);
        dueHoldings(x, POOL, 100, 11);
    }

    private static void sumsOf64Bits() {
        FairOrder x = withAccounts(MOST, 5000);
        for (int block = 1; block <= 4; block++) {
            due("pool", x.pool(MOST, 0), 1);
            prepareInOrder(x, call(0, SELL, 1000, 1000));
            due("gain", x.gain(0, 0, 0), 0);
            due("play", x.play(), 1);
            due("passed(0)", x.passed(0), MOST);
            dueHoldings(x, 0, MOST + block * MOST, 5000 - block * 1000);
            dueHoldings(x, POOL, 0, 1000);
            x.next();
        }
        due("a DEPOSIT of it", x.commit(0, 1000000, 0), 0);
        dueHoldings(x, 0, 5 * MOST - 1000000, 1000);
    }

    private static void fiveHundredAndTwelveCalls() {
        FairOrder x = withAccounts(102, 0);
        int calls = 1;
        for (int block = 0; block < 102; block++) {
            due("commit in BLOCK " + block, x.commit(0, 1, 0), 0);
            due("to PHASE 1 of BLOCK " + block, x.next(), 1);
            due("to PHASE 2 of BLOCK " + block, x.next(), 2);
            due("order in BLOCK " + block, x.order(block % 5, block), 0);
            due("behind BLOCK " + block, x.next(), 0);
            calls += 5;
        }
        due("the 512th call", x.has(POT, 0), 102);
        due("calls", calls + 1, 512);
    }

    // ---- Terms

    private static void terms() {
        test("NODES 0 .. 4", FairOrderEdges::nodes);
        test("A BLOCK has CALLS 0, 1, .., 16 at most", FairOrderEdges::sixteenCallsAtMost);
        test("a PHASE: 0 SEALED, 1 OPENED, 2 DONE", FairOrderEdges::phases);
        test("(64 bits, wrapping)", FairOrderEdges::sealsWrap);
        test("a DEPOSIT (taken from its MONEY, 0 .. 1000000)", FairOrderEdges::deposits);
        test("at which TIME (0 .. 1000000)", FairOrderEdges::timesFromZero);
        test("what is told must have its SEAL", FairOrderEdges::toldMustHaveItsSeal);
        test("its DEPOSIT comes back then", FairOrderEdges::depositComesBack);
        test("When PHASE 2 begins, DEPOSITS of CALLS that were not OPENED go to THE POT",
            FairOrderEdges::lostDeposits);
    }

    private static void nodes() {
        FairOrder x = withAccounts(0, 0);
        x.commit(0, 0, 0);
        due("node -1", x.hear(-1, 0, 1), BAD);
        due("node 5", x.hear(5, 0, 1), BAD);
        for (int node = 0; node <= 4; node++) {
            due("node " + node, x.hear(node, 0, 1), 1);
        }
    }

    private static void sixteenCallsAtMost() {
        FairOrder x = withAccounts(100, 0);
        for (int i = 0; i < 16; i++) {
            due("commit " + i, x.commit(0, 1, x.seal(BUY, 1, 1, i)), i);
        }
        due("one more", x.commit(0, 1, 0), FULL);
        due("count(1)", x.count(1), 16);
        dueHoldings(x, 0, 84, 0);
        due("a TIME of the last one", x.hear(0, 15, 1), 1);
        due("a TIME of one more", x.hear(0, 16, 1), BAD);
        x.next();
        due("open of the last one", x.open(15, BUY, 1, 1, 15), 1);
        due("open of one more", x.open(16, BUY, 1, 1, 15), BAD);
    }

    private static void phases() {
        FairOrder x = new FairOrder();
        due("at first", x.count(2), 0);
        for (int turn = 0; turn < 2; turn++) {
            due("next", x.next(), 1);
            due("count(2)", x.count(2), 1);
            due("next", x.next(), 2);
            due("count(2)", x.count(2), 2);
            due("next", x.next(), 0);
            due("count(2)", x.count(2), 0);
        }
    }

    private static long sealByBigNumbers(int side, int price, int amount, int salt) {
        BigInteger v = BigInteger.valueOf(salt);
        v = v.multiply(BigInteger.valueOf(31)).add(BigInteger.valueOf(side));
        v = v.multiply(BigInteger.valueOf(1009)).add(BigInteger.valueOf(price));
        v = v.multiply(BigInteger.valueOf(1013)).add(BigInteger.valueOf(amount));
        v = v.multiply(new BigInteger("6364136223846793005"));
        long wrapped = v.longValue();
        return wrapped ^ (wrapped >>> 29);
    }

    private static void sealsWrap() {
        FairOrder x = new FairOrder();
        int[] salts = {0, 1, 2, 3, -1, -2, 70000000, -70000000, GREATEST_INT, LEAST_INT};
        for (int salt : salts) {
            due("seal(0, 1, 1, " + salt + ")", x.seal(0, 1, 1, salt), sealByBigNumbers(0, 1, 1, salt));
            due("seal(1, 1000, 1000, " + salt + ")", x.seal(1, 1000, 1000, salt),
                sealByBigNumbers(1, 1000, 1000, salt));
            due("seal(1, 1, 1000, " + salt + ")", x.seal(1, 1, 1000, salt), sealByBigNumbers(1, 1, 1000, salt));
        }
    }

    private static void deposits() {
        FairOrder x = withAccounts(1000001, 0);
        due("-1", x.commit(0, -1, 0), BAD);
        due("1000001", x.commit(0, 1000001, 0), BAD);
        dueHoldings(x, 0, 1000001, 0);
        due("0", x.commit(0, 0, 0), 0);
        dueHoldings(x, 0, 1000001, 0);
        due("1000000", x.commit(0, 1000000, 0), 1);
        dueHoldings(x, 0, 1, 0);
    }

    private static void timesFromZero() {
        FairOrder x = withAccounts(0, 0);
        x.commit(0, 0, 0);
        x.commit(0, 0, 0);
        for (int node = 0; node < 3; node++) {
            due("-1", x.hear(node, 0, -1), BAD);
            due("1000001", x.hear(node, 1, 1000001), BAD);
            due("0", x.hear(node, 0, 0), 1);
            due("1000000", x.hear(node, 1, 1000000), 1);
        }
        due("heard(0)", x.heard(0), 0);
        due("heard(1)", x.heard(1), 1000000);
    }

    private static void toldMustHaveItsSeal() {
        FairOrder x = withAccounts(0, 0);
        x.commit(0, 0, x.seal(BUY, 1000, 999, -1));
        x.commit(0, 0, x.seal(SELL, 1, 1, 0));
        x.commit(0, 0, x.seal(SELL, 1, 1, 0) + 1);
        x.next();
        due("another side", x.open(0, SELL, 1000, 999, -1), OTHER);
        due("another price", x.open(0, BUY, 999, 999, -1), OTHER);
        due("another amount", x.open(0, BUY, 1000, 1000, -1), OTHER);
        due("another salt", x.open(0, BUY, 1000, 999, 0), OTHER);
        due("another CALL's", x.open(0, SELL, 1, 1, 0), OTHER);
        due("another SEAL by 1", x.open(2, SELL, 1, 1, 0), OTHER);
        due("its own", x.open(0, BUY, 1000, 999, -1), 1);
        due("its own", x.open(1, SELL, 1, 1, 0), 1);
    }

    private static void depositComesBack() {
        FairOrder x = withAccounts(1000, 0, 50, 0);
        x.commit(0, 1000, x.seal(BUY, 1, 1, 0));
        x.commit(1, 0, x.seal(BUY, 1, 1, 1));
        x.next();
        dueHoldings(x, 0, 0, 0);
        x.open(0, BUY, 1, 1, 7);
        dueHoldings(x, 0, 0, 0);
        x.open(0, BUY, 1, 1, 0);
        dueHoldings(x, 0, 1000, 0);
        x.open(0, BUY, 1, 1, 0);
        dueHoldings(x, 0, 1000, 0);
        x.open(1, BUY, 1, 1, 1);
        dueHoldings(x, 1, 50, 0);
        x.next();
        dueHoldings(x, 0, 1000, 0);
        due("THE POT", x.has(POT, 0), 0);
    }

    private static void lostDeposits() {
        FairOrder x = withAccounts(100, 0, 100, 0);
        x.commit(0, 10, x.seal(BUY, 1, 1, 0));
        x.commit(0, 20, 1);
        x.commit(1, 40, 1);
        due("in PHASE 0", x.has(POT, 0), 0);
        x.next();
        x.open(0, BUY, 1, 1, 0);
        due("in PHASE 1", x.has(POT, 0), 0);
        x.next();
        due("in PHASE 2", x.has(POT, 0), 60);
        dueHoldings(x, 0, 80, 0);
        dueHoldings(x, 1, 60, 0);
        x.next();
        due("in the next BLOCK", x.has(POT, 0), 60);
        x.next();
        x.next();
        due("of a BLOCK without CALLS", x.has(POT, 0), 60);
        x.next();
        x.commit(0, 1, 1);
        x.next();
        x.next();
        due("of another BLOCK", x.has(POT, 0), 61);
    }

    // ---- 2 ORDERS

    private static void orders() {
        test("ORDERS (of CALLS that are OPENED", FairOrderEdges::ordersOfOpenedCalls);
        test("of several that are alike the one of lesser number first", FairOrderEdges::alikeByNumbers);
        test("1 by price, the greatest first", FairOrderEdges::greatestPriceFirst);
        test("(a NODE that told none: behind all TIMES)", FairOrderEdges::noTimeIsBehindAll);
        test("the third one, the least first", FairOrderEdges::leastThirdTimeFirst);
        test("for p from the last place to place 1", FairOrderEdges::lotOfFewAndMany);
        test("1442695040888963407 together (wrapping)", FairOrderEdges::lotWraps);
        test("are changed for one another, beginning with 0", FairOrderEdges::lotBeginsByNumbers);
    }

    private static void ordersOfOpenedCalls() {
        FairOrder x = withAccounts(0, 0);
        commitAll(x, plainTerms(3));
        for (int node = 0; node < 5; node++) {
            x.hear(node, 0, 1);
            x.hear(node, 2, 2);
        }
        x.next();
        x.open(1, BUY, 1, 1, 1);
        x.next();
        for (int kind = 0; kind <= 4; kind++) {
            dueOrder(x, kind, 5, 1);
        }
        FairOrder none = withAccounts(0, 0);
        commitAll(none, plainTerms(16));
        none.next();
        none.next();
        for (int kind = 0; kind <= 4; kind++) {
            dueOrder(none, kind, 5);
        }
    }

    private static void alikeByNumbers() {
        FairOrder x = plainBlock(16);
        int[] byNumbers = new int[16];
        for (int i = 0; i < 16; i++) {
            byNumbers[i] = i;
        }
        for (int kind = 0; kind <= 3; kind++) {
            dueOrder(x, kind, 5, byNumbers);
        }
        FairOrder y = withAccounts(0, 0);
        prepare(y, call(0, BUY, 3, 1), call(0, SELL, 9, 2), call(0, SELL, 3, 3), call(0, BUY, 9, 4));
        dueOrder(y, 1, 0, 1, 3, 0, 2);
        FairOrder z = heardBlock(times(0, 0, 7), times(5, 5, 5), times(7, 7, 7, 7, 7), times(5, 1, 2));
        dueOrder(z, 2, 0, 1, 3, 0, 2);
    }

    private static void greatestPriceFirst() {
        FairOrder x = withAccounts(0, 0);
        prepare(x, call(0, BUY, 1, 1), call(0, BUY, 2, 1), call(0, BUY, 999, 1), call(0, BUY, 1000, 1));
        dueOrder(x, 1, 0, 3, 2, 1, 0);
    }

    private static void noTimeIsBehindAll() {
        FairOrder x = heardBlock(
            times(-1, -1, -1, -1, -1), times(0, 0, -1, -1, -1), times(-1, 1000000, 1000000, 1000000, -1));
        dueOrder(x, 2, 0, 2, 0, 1);
    }

    private static void leastThirdTimeFirst() {
        FairOrder x = heardBlock(
            times(5, 6, 7, 8, 9), times(1000000, 1000000, 6, 0, 0), times(5, 5, 5, 5, 5), times(4, 999, 4, 4, 999));
        dueOrder(x, 2, 0, 3, 2, 1, 0);
    }

    private static int[] lotByBigNumbers(int n, long seed) {
        int[] row = new int[n];
        for (int i = 0; i < n; i++) {
            row[i] = i;
        }
        BigInteger whole = BigInteger.ONE.shiftLeft(64);
        BigInteger x = BigInteger.valueOf(seed).mod(whole);
        for (int p = n - 1; p >= 1; p--) {
            x = x.multiply(new BigInteger("6364136223846793005")).add(new BigInteger("1442695040888963407"));
            x = x.mod(whole);
            int q = x.shiftRight(33).mod(BigInteger.valueOf(p + 1)).intValueExact();
            int kept = row[p];
            row[p] = row[q];
            row[q] = kept;
        }
        return row;
    }

    private static void lotOfFewAndMany() {
        int[] sizes = {0, 1, 2, 3, 15, 16};
        for (int n : sizes) {
            FairOrder x = plainBlock(n);
            for (long seed = 0; seed < 8; seed++) {
                dueOrder(x, 4, seed, lotByBigNumbers(n, seed));
            }
        }
    }

    private static void lotWraps() {
        long[] seeds = {-1, Long.MAX_VALUE, Long.MIN_VALUE, Long.MAX_VALUE / 3, Long.MIN_VALUE / 3};
        FairOrder x = plainBlock(16);
        for (long seed : seeds) {
            dueOrder(x, 4, seed, lotByBigNumbers(16, seed));
        }
    }

    private static void lotBeginsByNumbers() {
        FairOrder x = withAccounts(0, 0);
        prepare(x, call(0, BUY, 1, 1), call(0, BUY, 2, 1), call(0, BUY, 3, 1), call(0, BUY, 4, 1));
        dueOrder(x, 1, 0, 3, 2, 1, 0);
        dueOrder(x, 4, 6, lotByBigNumbers(4, 6));
        dueOrder(x, 4, 6, lotByBigNumbers(4, 6));
    }

    // ---- 2 ORDERS, FAIR

    private static void fairOrders() {
        test("if more NODES heard of a before b than of b before a", FairOrderEdges::moreNodes);
        test("(a NODE that heard of one alone heard of that before)", FairOrderEdges::heardOfOneAlone);
        test("or AHEAD of one that is LINKED to it", FairOrderEdges::linkedOverOthers);
        test("CALLS that are LINKED to one another are of one KNOT", FairOrderEdges::oneKnot);
        test("(each with itself)", FairOrderEdges::knotsOfOneCall);
        test("have no CALL to which one of another KNOT left is LINKED", FairOrderEdges::freeKnotsOfThoseLeft);
        test("that with the CALL of the least number", FairOrderEdges::knotOfTheLeastNumber);
        test("in a KNOT by numbers", FairOrderEdges::inAKnotByNumbers);
    }

    private static void dueLinks(FairOrder x, int a, int b, int aToB, int bToA) {
        due("linked(" + a + ", " + b + ")", x.linked(a, b), aToB);
        due("linked(" + b + ", " + a + ")", x.linked(b, a), bToA);
    }

    private static void moreNodes() {
        FairOrder ahead = heardBlock(times(5, 5, 5, 1, 1), times(4, 4, 4, 2, 2));
        dueLinks(ahead, 1, 0, 1, 0);
        dueOrder(ahead, 3, 0, 1, 0);
        FairOrder byOne = heardBlock(times(5, 5, 5, 5, 5), times(5, 5, 5, 5, 4));
        dueLinks(byOne, 1, 0, 1, 0);
        dueOrder(byOne, 3, 0, 1, 0);
        FairOrder asMany = heardBlock(times(5, 5, 5, 1, 1), times(4, 4, 5, 2, 2));
        dueLinks(asMany, 0, 1, 0, 0);
        dueOrder(asMany, 3, 0, 0, 1);
        FairOrder sameTimes = heardBlock(times(0, 0, 0, 0, 0), times(0, 0, 0, 0, 0));
        dueLinks(sameTimes, 0, 1, 0, 0);
        dueOrder(sameTimes, 3, 0, 0, 1);
    }

    private static void heardOfOneAlone() {
        FairOrder last = heardBlock(times(-1, -1, -1, -1, -1), times(-1, -1, -1, -1, 1000000));
        dueLinks(last, 1, 0, 1, 0);
        dueOrder(last, 3, 0, 1, 0);
        FairOrder asMany = heardBlock(times(-1, 1000000, 3, -1, -1), times(0, -1, 3, -1, -1));
        dueLinks(asMany, 0, 1, 0, 0);
        FairOrder none = heardBlock(times(-1, -1, -1, -1, -1), times(-1, -1, -1, -1, -1));
        dueLinks(none, 0, 1, 0, 0);
        dueOrder(none, 3, 0, 0, 1);
    }

    // Each is ahead of the one of number less by 1 alone: of all other pairs two nodes say this, two that.
    private static int[][] chain(int n) {
        int[][] times = new int[n][];
        for (int i = 0; i < n; i++) {
            int pair = i / 2;
            int otherPair = (i + 1) / 2;
            int second = i % 2 == 0 ? 1 : 0;
            int otherSecond = 1 - second;
            times[i] = times(
                2 * pair + second, 2 * (n - pair) + second,
                2 * otherPair + otherSecond, 2 * (n - otherPair) + otherSecond);
        }
        return times;
    }

    private static void linkedOverOthers() {
        FairOrder x = heardBlock(chain(3));
        dueLinks(x, 1, 0, 1, 0);
        dueLinks(x, 2, 1, 1, 0);
        dueLinks(x, 2, 0, 1, 0);
        int[][] ends = {chain(3)[0], chain(3)[2]};
        dueLinks(heardBlock(ends), 1, 0, 0, 0);
        FairOrder all = heardBlock(chain(16));
        dueLinks(all, 15, 0, 1, 0);
        dueLinks(all, 14, 1, 1, 0);
        dueOrder(all, 3, 0, 15, 14, 13, 12, 11, 10, 9, 8, 7, 6, 5, 4, 3, 2, 1, 0);
        FairOrder otherWay = heardBlock(turned(chain(16)));
        dueLinks(otherWay, 0, 15, 1, 0);
        dueLinks(otherWay, 1, 14, 1, 0);
        dueOrder(otherWay, 3, 0, 0, 1, 2, 3, 4, 5, 6, 7, 8, 9, 10, 11, 12, 13, 14, 15);
    }

    private static int[][] turned(int[][] rows) {
        int[][] turned = new int[rows.length][];
        for (int i = 0; i < rows.length; i++) {
            turned[i] = rows[rows.length - 1 - i];
        }
        return turned;
    }

    // Each is ahead of the next one, the last of the first: one node of three says otherwise.
    private static int[][] wheel(int n) {
        int[][] times = new int[n][];
        for (int i = 0; i < n; i++) {
            times[i] = times(i, (i + n / 3) % n, (i + 2 * n / 3) % n, -1, -1);
        }
        return times;
    }

    private static void oneKnot() {
        int[] sizes = {3, 4, 16};
        for (int n : sizes) {
            FairOrder x = heardBlock(wheel(n));
            for (int i = 0; i < n; i++) {
                dueLinks(x, i, (i + 1) % n, 1, 1);
            }
            dueLinks(x, 0, n - 1, 1, 1);
        }
    }

    private static void knotsOfOneCall() {
        FairOrder one = heardBlock(times(-1, -1, -1, -1, -1));
        due("linked(0, 0)", one.linked(0, 0), 0);
        dueOrder(one, 3, 0, 0);
        FairOrder chain = heardBlock(times(3, 3, 3, -1, -1), times(2, 2, 2, -1, -1), times(1, 1, 1, -1, -1));
        for (int i = 0; i < 3; i++) {
            due("linked(" + i + ", " + i + ")", chain.linked(i, i), 0);
        }
        dueOrder(chain, 3, 0, 2, 1, 0);
    }

    private static void freeKnotsOfThoseLeft() {
        // 2 is ahead of 0, all others are alike: 0 comes as soon as 2 came, in front of 3.
        FairOrder x = heardBlock(times(2, -1, -1), times(-1, 5, -1), times(1, -1, -1), times(-1, -1, 5));
        dueLinks(x, 2, 0, 1, 0);
        dueLinks(x, 1, 0, 0, 0);
        dueLinks(x, 3, 0, 0, 0);
        dueOrder(x, 3, 0, 1, 2, 0, 3);
        // 3 is ahead of 0 alone, as many heard of it before 1 and 2 as behind them: all of their knot waits for 3.
        FairOrder y = heardBlock(
            times(10, 30, 20, -1), times(20, 10, 30, -1), times(30, 20, 10, -1), times(25, 25, 15, 1));
        dueLinks(y, 3, 0, 1, 0);
        dueLinks(y, 3, 1, 1, 0);
        dueLinks(y, 3, 2, 1, 0);
        dueOrder(y, 3, 0, 3, 0, 1, 2);
    }

    private static void knotOfTheLeastNumber() {
        int[] loose = times(5, 40, 40, 1, -1);
        int[] a = times(10, 30, 20, -1, -1);
        int[] b = times(20, 10, 30, -1, -1);
        int[] c = times(30, 20, 10, -1, -1);
        dueOrder(heardBlock(a, b, c, loose), 3, 0, 0, 1, 2, 3);
        dueOrder(heardBlock(loose, a, b, c), 3, 0, 0, 1, 2, 3);
        dueOrder(heardBlock(a, loose, b, c), 3, 0, 0, 2, 3, 1);
        dueOrder(heardBlock(loose, a, loose, b, loose, c), 3, 0, 0, 1, 3, 5, 2, 4);
    }

    private static void inAKnotByNumbers() {
        dueOrder(heardBlock(wheel(3)), 3, 0, 0, 1, 2);
        dueOrder(heardBlock(wheel(16)), 3, 0, 0, 1, 2, 3, 4, 5, 6, 7, 8, 9, 10, 11, 12, 13, 14, 15);
        int[][] w = wheel(3);
        dueOrder(heardBlock(w[2], w[1], w[0]), 3, 0, 0, 1, 2);
        dueOrder(heardBlock(w[1], times(9, 9, 9, -1, -1), w[0], w[2]), 3, 0, 0, 2, 3, 1);
    }

    // ---- 3 TO PLAY

    private static void toPlay() {
        test("M n / (G - n), rounded up", FairOrderEdges::costsAreRoundedUp);
        test("it is DONE, if n is below G", FairOrderEdges::buysBelowG);
        test("that is not above price times n", FairOrderEdges::buysUpToTheirPrice);
        test("and its ACCOUNT has so much MONEY", FairOrderEdges::buysUpToTheirMoney);
        test("M n / (G + n), rounded down", FairOrderEdges::sellsAreRoundedDown);
        test("it is DONE, if its ACCOUNT has n GOODS", FairOrderEdges::sellsUpToTheirGoods);
        test("and that is not below price times n", FairOrderEdges::sellsDownToTheirPrice);
        test("TO PLAY a row of CALLS, one by one", FairOrderEdges::oneByOne);
        test("Then MONEY and GOODS pass between THE POOL and the ACCOUNT", FairOrderEdges::greatestSumsPass);
        test("Others are LEFT (nothing changes)", FairOrderEdges::leftChangesNothing);
    }

    // want: the money that passes, or LEFT.
    private static void dueBuy(long m, long g, int price, int n, long money, long want) {
        String name = "a BUY of " + n + " for " + price + " with MONEY " + money + ", POOL " + m + ", " + g;
        FairOrder x = withAccounts(money, 0);
        x.pool(m, g);
        prepareInOrder(x, call(0, BUY, price, n));
        long paid = want == LEFT ? 0 : want;
        int bought = want == LEFT ? 0 : n;
        due(name + ": play", x.play(), want == LEFT ? 0 : 1);
        due(name + ": done", x.done(0), bought);
        due(name + ": passed", x.passed(0), paid);
        dueHoldings(x, 0, money - paid, bought);
        dueHoldings(x, POOL, m + paid, g - bought);
    }

    private static void dueSell(long m, long g, int price, int n, long goods, long want) {
        String name = "a SELL of " + n + " for " + price + " with GOODS " + goods + ", POOL " + m + ", " + g;
        FairOrder x = withAccounts(0, goods);
        x.pool(m, g);
        prepareInOrder(x, call(0, SELL, price, n));
        long earned = want == LEFT ? 0 : want;
        int sold = want == LEFT ? 0 : n;
        due(name + ": play", x.play(), want == LEFT ? 0 : 1);
        due(name + ": done", x.done(0), sold);
        due(name + ": passed", x.passed(0), earned);
        dueHoldings(x, 0, earned, goods - sold);
        dueHoldings(x, POOL, m - earned, g + sold);
    }

    private static void costsAreRoundedUp() {
        dueBuy(9, 4, 1000, 1, 100, 3);
        dueBuy(10, 4, 1000, 1, 100, 4);
        dueBuy(11, 4, 1000, 1, 100, 4);
        dueBuy(12, 4, 1000, 1, 100, 4);
        dueBuy(1, 1000, 1, 1, 1, 1);
        dueBuy(0, 2, 1, 1, 0, 0);
    }

    private static void buysBelowG() {
        dueBuy(100, 11, 1000, 10, 5000, 1000);
        dueBuy(100, 10, 1000, 10, 5000, LEFT);
        dueBuy(100, 9, 1000, 10, 5000, LEFT);
        dueBuy(0, 1, 1000, 1, 5000, LEFT);
        dueBuy(0, 0, 1000, 1, 5000, LEFT);
        dueBuy(0, 0, 1000, 1000, 5000, LEFT);
    }

    private static void buysUpToTheirPrice() {
        dueBuy(100, 11, 101, 10, 5000, 1000);
        dueBuy(100, 11, 100, 10, 5000, 1000);
        dueBuy(100, 11, 99, 10, 5000, LEFT);
        // 10 / 3 is above 3, as it is rounded up.
        dueBuy(10, 4, 4, 1, 5000, 4);
        dueBuy(10, 4, 3, 1, 5000, LEFT);
    }

    private static void buysUpToTheirMoney() {
        dueBuy(100, 11, 1000, 10, 1001, 1000);
        dueBuy(100, 11, 1000, 10, 1000, 1000);
        dueBuy(100, 11, 1000, 10, 999, LEFT);
        dueBuy(100, 11, 1000, 10, 0, LEFT);
        dueBuy(0, 11, 1, 10, 0, 0);
    }

    private static void sellsAreRoundedDown() {
        dueSell(10, 1, 1, 1, 1, 5);
        dueSell(11, 1, 1, 1, 1, 5);
        dueSell(12, 1, 1, 1, 1, 6);
        dueSell(1000, 0, 1, 1, 1, 1000);
    }

    private static void sellsUpToTheirGoods() {
        dueSell(1000, 10, 1, 10, 11, 500);
        dueSell(1000, 10, 1, 10, 10, 500);
        dueSell(1000, 10, 1, 10, 9, LEFT);
        dueSell(1000, 0, 1, 1, 0, LEFT);
    }

    private static void sellsDownToTheirPrice() {
        dueSell(1000, 10, 49, 10, 10, 500);
        dueSell(1000, 10, 50, 10, 10, 500);
        dueSell(1000, 10, 51, 10, 10, LEFT);
        // 11 / 2 is below 6, and 5 as it is rounded down.
        dueSell(11, 1, 5, 1, 1, 5);
        dueSell(11, 1, 6, 1, 1, LEFT);
        dueSell(0, 0, 1, 1, 1, LEFT);
        dueSell(0, 10, 1, 1000, 1000, LEFT);
    }

    private static void oneByOne() {
        // The BUY has its MONEY from the SELL in front of it.
        FairOrder x = withAccounts(0, 10);
        x.pool(1000, 10);
        prepareInOrder(x, call(0, SELL, 50, 10), call(0, BUY, 50, 10));
        due("play", x.play(), 2);
        duePassed(x, 500, 500);
        dueHoldings(x, 0, 0, 10);
        dueHoldings(x, POOL, 1000, 10);
        // The other way round the BUY has neither MONEY nor enough GOODS in THE POOL.
        FairOrder y = withAccounts(0, 10);
        y.pool(1000, 10);
        prepareInOrder(y, call(0, BUY, 50, 10), call(0, SELL, 50, 10));
        due("play", y.play(), 1);
        dueDone(y, 0, 10);
        // The SELL has its GOODS from the BUY in front of it.
        FairOrder z = withAccounts(1000, 0);
        z.pool(100, 11);
        prepareInOrder(z, call(0, BUY, 100, 10), call(0, SELL, 100, 10));
        due("play", z.play(), 2);
        duePassed(z, 1000, 1000);
    }

    private static void greatestSumsPass() {
        dueBuy(MOST, MOST, 1000, 1000, MOST, 1001);
        dueBuy(MOST, 2000000, 1000, 1000, MOST, 500251);
        dueBuy(MOST, 1001000, 1000, 1000, MOST, 1000000);
        dueSell(MOST, 0, 1000, 1000, MOST, MOST);
        dueSell(MOST, MOST - 1000, 1, 1000, MOST, 1000);
        dueSell(MOST, MOST, 1, 1000, MOST, LEFT);
    }

    private static void leftChangesNothing() {
        FairOrder x = withAccounts(500, 0, 100, 0);
        x.pool(100, 100);
        prepareInOrder(x,
            call(1, SELL, 1, 1), call(0, BUY, 2, 50), call(0, BUY, 1, 10), call(1, BUY, 3, 49), call(1, BUY, 1000, 51));
        // 50 for 100; then 200 * 10 / 40 = 50 is above 10; 200 * 49 is above 147; 51 is not below 50.
        due("play", x.play(), 1);
        dueDone(x, 0, 50, 0, 0, 0);
        duePassed(x, 0, 100, 0, 0, 0);
        dueHoldings(x, 0, 400, 50);
        dueHoldings(x, 1, 100, 0);
        dueHoldings(x, POOL, 200, 50);
    }

    // ---- 3 AT ONE PRICE

    private static void atOnePrice() {
        test("a BUY of price p or more takes part", FairOrderEdges::buysOfThePriceOrMore);
        test("MONEY is enough for it and all its BUYS that take part already (amounts times p)",
            FairOrderEdges::moneyForAllItsBuys);
        test("a SELL of price p or less", FairOrderEdges::sellsOfThePriceOrLess);
        test("if its ACCOUNT's GOODS are for it and all its SELLS that do", FairOrderEdges::goodsForAllItsSells);
        test("VOLUME: the lesser one of these", FairOrderEdges::volumeIsTheLesserSum);
        test("THE PRICE is that of those from 1 to 1000", FairOrderEdges::pricesFrom1To1000);
        test("with the greatest VOLUME, of several the least one", FairOrderEdges::leastOfTheBestPrices);
        test("Of the side with the lesser sum all are DONE whole", FairOrderEdges::lesserSideIsDoneWhole);
        test("of the other one in the ORDER, until VOLUME is reached", FairOrderEdges::otherSideInTheOrder);
        test("the last one in part (0: LEFT)", FairOrderEdges::lastOneInPart);
    }

    private static void dueBatch(FairOrder x, int price, int... amounts) {
        due("batch", x.batch(), price);
        dueDone(x, amounts);
        for (int c = 0; c < amounts.length; c++) {
            due("passed(" + c + ")", x.passed(c), (long) amounts[c] * price);
        }
    }

    private static void buysOfThePriceOrMore() {
        int[] prices = {4, 5, 6};
        for (int price : prices) {
            FairOrder x = withAccounts(100, 0, 0, 100);
            prepareInOrder(x, call(0, BUY, price, 3), call(0, BUY, 5, 4), call(1, SELL, 5, 10));
            dueBatch(x, 5, price < 5 ? 0 : 3, 4, price < 5 ? 4 : 7);
        }
    }

    private static void moneyForAllItsBuys() {
        FairOrder enough = withAccounts(45, 0, 0, 15);
        prepareInOrder(enough, call(0, BUY, 9, 10), call(0, BUY, 9, 5), call(1, SELL, 3, 15));
        dueBatch(enough, 3, 10, 5, 15);
        dueHoldings(enough, 0, 0, 15);
        FairOrder oneShort = withAccounts(44, 0, 0, 15);
        prepareInOrder(oneShort, call(0, BUY, 9, 10), call(0, BUY, 9, 5), call(1, SELL, 3, 15));
        dueBatch(oneShort, 3, 10, 0, 10);
        FairOrder laterOne = withAccounts(29, 0, 0, 15);
        prepareInOrder(laterOne, call(0, BUY, 9, 10), call(0, BUY, 9, 9), call(0, BUY, 9, 1), call(1, SELL, 3, 15));
        dueBatch(laterOne, 3, 0, 9, 0, 9);
        FairOrder cheaper = withAccounts(30, 0, 0, 15);
        prepareInOrder(cheaper, call(0, BUY, 9, 10), call(0, BUY, 9, 5), call(1, SELL, 1, 15));
        dueBatch(cheaper, 1, 10, 5, 15);
        FairOrder ofEachAlone = withAccounts(30, 0, 15, 0, 0, 15);
        prepareInOrder(ofEachAlone, call(0, BUY, 9, 10), call(1, BUY, 9, 5), call(2, SELL, 3, 15));
        dueBatch(ofEachAlone, 3, 10, 5, 15);
        FairOrder notOfItsSells = withAccounts(0, 10);
        prepareInOrder(notOfItsSells, call(0, SELL, 1, 10), call(0, BUY, 1, 10));
        dueBatch(notOfItsSells, NONE, 0, 0);
    }

    private static void sellsOfThePriceOrLess() {
        int[] prices = {4, 5, 6};
        for (int price : prices) {
            FairOrder x = withAccounts(100, 0, 0, 100);
            prepareInOrder(x, call(1, SELL, price, 3), call(1, SELL, 5, 4), call(0, BUY, 5, 10));
            dueBatch(x, 5, price > 5 ? 0 : 3, 4, price > 5 ? 4 : 7);
        }
    }

    private static void goodsForAllItsSells() {
        FairOrder enough = withAccounts(100, 0, 0, 15);
        prepareInOrder(enough, call(1, SELL, 3, 10), call(1, SELL, 3, 5), call(0, BUY, 3, 15));
        dueBatch(enough, 3, 10, 5, 15);
        dueHoldings(enough, 1, 45, 0);
        FairOrder oneShort = withAccounts(100, 0, 0, 14);
        prepareInOrder(oneShort, call(1, SELL, 3, 10), call(1, SELL, 3, 5), call(0, BUY, 3, 15));
        dueBatch(oneShort, 3, 10, 0, 10);
        FairOrder laterOne = withAccounts(100, 0, 0, 9);
        prepareInOrder(laterOne, call(1, SELL, 3, 10), call(1, SELL, 3, 9), call(1, SELL, 3, 1), call(0, BUY, 3, 15));
        dueBatch(laterOne, 3, 0, 9, 0, 9);
        FairOrder ofEachAlone = withAccounts(100, 0, 0, 10, 0, 5);
        prepareInOrder(ofEachAlone, call(1, SELL, 3, 10), call(2, SELL, 3, 5), call(0, BUY, 3, 15));
        dueBatch(ofEachAlone, 3, 10, 5, 15);
        FairOrder notOfItsBuys = withAccounts(100, 0);
        prepareInOrder(notOfItsBuys, call(0, BUY, 1, 10), call(0, SELL, 1, 10));
        dueBatch(notOfItsBuys, NONE, 0, 0);
    }

    private static void volumeIsTheLesserSum() {
        // At 2 there are 9 to buy and 3 to sell, at 4 5 and 5, at 6 1 and 9.
        FairOrder x = withAccounts(1000, 0, 0, 100);
        prepareInOrder(x,
            call(0, BUY, 2, 4), call(0, BUY, 4, 4), call(0, BUY, 6, 1),
            call(1, SELL, 2, 3), call(1, SELL, 4, 2), call(1, SELL, 6, 4));
        dueBatch(x, 4, 0, 4, 1, 3, 2, 0);
    }

    private static void pricesFrom1To1000() {
        FairOrder least = withAccounts(1, 0, 0, 1);
        prepareInOrder(least, call(0, BUY, 1, 1), call(1, SELL, 1, 1));
        dueBatch(least, 1, 1, 1);
        FairOrder greatest = withAccounts(1000000, 0, 0, 1000);
        prepareInOrder(greatest, call(0, BUY, 1000, 1000), call(1, SELL, 1000, 1000));
        dueBatch(greatest, 1000, 1000, 1000);
        dueHoldings(greatest, 0, 0, 1000);
        dueHoldings(greatest, 1, 1000000, 0);
        FairOrder none = withAccounts(MOST, MOST);
        prepareInOrder(none, call(0, BUY, 999, 1), call(0, SELL, 1000, 1));
        dueBatch(none, NONE, 0, 0);
    }

    private static void leastOfTheBestPrices() {
        FairOrder all = withAccounts(MOST, 0, 0, MOST);
        prepareInOrder(all, call(0, BUY, 1000, 10), call(1, SELL, 1, 10));
        dueBatch(all, 1, 10, 10);
        FairOrder higher = withAccounts(1000, 0, 0, 100);
        prepareInOrder(higher, call(0, BUY, 9, 10), call(1, SELL, 4, 9), call(1, SELL, 7, 1));
        dueBatch(higher, 7, 10, 9, 1);
        FairOrder noMore = withAccounts(1000, 0, 0, 100);
        prepareInOrder(noMore, call(0, BUY, 9, 9), call(1, SELL, 4, 9), call(1, SELL, 7, 1));
        dueBatch(noMore, 4, 9, 9, 0);
    }

    private static void lesserSideIsDoneWhole() {
        FairOrder sells = withAccounts(1000, 0, 0, 100);
        prepareInOrder(sells, call(1, SELL, 5, 3), call(0, BUY, 5, 10), call(1, SELL, 4, 6));
        dueBatch(sells, 5, 3, 9, 6);
        FairOrder buys = withAccounts(1000, 0, 0, 100);
        prepareInOrder(buys, call(0, BUY, 5, 3), call(1, SELL, 5, 10), call(0, BUY, 6, 6));
        dueBatch(buys, 5, 3, 9, 6);
        FairOrder both = withAccounts(1000, 0, 0, 100);
        prepareInOrder(both, call(0, BUY, 5, 3), call(1, SELL, 5, 9), call(0, BUY, 6, 6));
        dueBatch(both, 5, 3, 9, 6);
        dueHoldings(both, 0, 955, 9);
        dueHoldings(both, 1, 45, 91);
    }

    private static void otherSideInTheOrder() {
        FairOrder x = withAccounts(1000, 0, 0, 8);
        prepare(x, call(0, BUY, 6, 6), call(0, BUY, 5, 6), call(0, BUY, 7, 6), call(1, SELL, 5, 8));
        dueOrder(x, 1, 0, 2, 0, 1, 3);
        dueBatch(x, 5, 2, 0, 6, 8);
        FairOrder y = withAccounts(100, 0, 0, 100);
        prepare(y, call(1, SELL, 1, 6), call(1, SELL, 2, 6), call(1, SELL, 3, 6), call(0, BUY, 4, 8));
        dueOrder(y, 1, 0, 3, 2, 1, 0);
        dueBatch(y, 2, 2, 6, 0, 8);
    }

    private static void lastOneInPart() {
        int[][] wants = {{1, 0, 0}, {5, 0, 0}, {6, 0, 0}, {6, 1, 0}, {6, 6, 0}, {6, 6, 5}, {6, 6, 6}};
        for (int[] want : wants) {
            int volume = want[0] + want[1] + want[2];
            FairOrder x = withAccounts(1000, 0, 0, 100);
            prepareInOrder(x,
                call(0, BUY, 5, 6), call(0, BUY, 5, 6), call(0, BUY, 5, 6), call(1, SELL, 5, volume));
            dueBatch(x, 5, want[0], want[1], want[2], volume);
            dueHoldings(x, 0, 1000 - 5 * volume, volume);
            dueHoldings(x, 1, 5 * volume, 100 - volume);
            FairOrder y = withAccounts(1000, 0, 0, 100);
            prepareInOrder(y,
                call(1, SELL, 5, 6), call(1, SELL, 5, 6), call(1, SELL, 5, 6), call(0, BUY, 5, volume));
            dueBatch(y, 5, want[0], want[1], want[2], volume);
            dueHoldings(y, 0, 1000 - 5 * volume, volume);
            dueHoldings(y, 1, 5 * volume, 100 - volume);
        }
    }

    // ---- REFUSALS

    private static final int SEALED = 0, OPENED = 1, UNORDERED = 2, ORDERED = 3, PLAYED = 4, BATCHED = 5, CROWDED = 6;

    private static void refusals() {
        test("REFUSALS are answers: BAD (a number is none, or out of its bounds) first", FairOrderEdges::badFirst);
        test("then what a call names, in the order named", FairOrderEdges::inTheOrderNamed);
        test("What is refused changes nothing", FairOrderEdges::refusalsChangeNothing);
    }

    // A block on its way; CROWDED has all accounts and calls that there can be.
    private static FairOrder inState(int state) {
        FairOrder x = withAccounts(1000, 20, 15, 50);
        x.pool(300, 40);
        x.commit(0, 10, x.seal(BUY, 30, 2, 0));
        x.commit(1, 5, x.seal(SELL, 2, 3, 1));
        x.commit(0, 7, x.seal(BUY, 9, 1, 2));
        x.hear(0, 0, 5);
        x.hear(0, 1, 4);
        x.hear(1, 1, 6);
        if (state == CROWDED) {
            return crowded(x);
        }
        if (state == SEALED) {
            return x;
        }
        x.next();
        x.open(0, BUY, 30, 2, 0);
        if (state == OPENED) {
            return x;
        }
        x.open(1, SELL, 2, 3, 1);
        x.next();
        return ordered(x, state);
    }

    private static FairOrder ordered(FairOrder x, int state) {
        if (state >= ORDERED) {
            x.order(3, 0);
        }
        if (state == PLAYED) {
            x.play();
        }
        if (state == BATCHED) {
            x.batch();
        }
        return x;
    }

    private static FairOrder crowded(FairOrder x) {
        for (int i = 2; i < 8; i++) {
            x.account(i, i);
        }
        for (int i = 3; i < 16; i++) {
            x.commit(0, 1, i);
        }
        return x;
    }

    // All that can be asked, and nothing that changes.
    private static List<Long> everything(FairOrder x) {
        List<Long> answers = new ArrayList<>();
        for (int what = 0; what <= 5; what++) {
            answers.add((long) x.count(what));
        }
        for (int owner = POT; owner <= x.count(0); owner++) {
            answers.add(x.has(owner, 0));
            answers.add(x.has(owner, 1));
        }
        for (int c = 0; c <= Math.min(x.count(1), 4); c++) {
            for (int what = 0; what <= 4; what++) {
                answers.add((long) x.of(c, what));
            }
            answers.add((long) x.heard(c));
            answers.add((long) x.done(c));
            answers.add(x.passed(c));
            answers.add((long) x.at(c));
            answers.add((long) x.linked(c, 0));
            answers.add((long) x.linked(0, c));
            answers.add(x.gain(c, 0, 0));
            answers.add(x.gain(0, c, 1));
        }
        return answers;
    }

    // What the block comes to: shows what cannot be asked, too, as seals, deposits and times.
    private static List<Long> future(FairOrder x) {
        List<Long> answers = new ArrayList<>();
        answers.add((long) x.hear(2, 0, 5));
        answers.add((long) x.hear(3, 1, 1));
        answers.add((long) x.commit(1, 1, 9));
        for (int turn = 0; turn < 2; turn++) {
            answers.add((long) x.open(0, BUY, 30, 2, 0));
            answers.add((long) x.open(1, SELL, 2, 3, 1));
            answers.add((long) x.open(2, BUY, 9, 1, 2));
            if (x.count(2) != 2) {
                answers.add((long) x.next());
            }
        }
        answers.add((long) x.order(2, 0));
        answers.add((long) x.play());
        answers.add((long) x.account(3, 4));
        answers.addAll(everything(x));
        return answers;
    }

    private static void dueRefusal(String name, int state, Step step, long answer) {
        FairOrder x = inState(state);
        FairOrder twin = inState(state);
        due(name, step.on(x), answer);
        due(name + " changes nothing", everything(x).equals(everything(twin)) ? 1 : 0, 1);
        due(name + " changes nothing of what comes", future(x).equals(future(twin)) ? 1 : 0, 1);
    }

    private static void badFirst() {
        due("account, BAD and FULL", inState(CROWDED).account(-1, 0), BAD);
        due("account, BAD and FULL", inState(CROWDED).account(0, MOST + 1), BAD);
        due("commit, BAD and FULL", inState(CROWDED).commit(8, 0, 0), BAD);
        due("commit, BAD and FULL", inState(CROWDED).commit(0, -1, 0), BAD);
        due("commit, BAD and WHEN", inState(OPENED).commit(2, 0, 0), BAD);
        due("commit, BAD and WHEN", inState(PLAYED).commit(0, 1000001, 0), BAD);
        due("commit, BAD and SHORT", inState(SEALED).commit(1, 1000001, 0), BAD);
        due("hear, BAD and WHEN", inState(OPENED).hear(5, 0, 1), BAD);
        due("hear, BAD and WHEN", inState(OPENED).hear(1, 3, 1), BAD);
        due("hear, BAD and WHEN", inState(PLAYED).hear(1, 0, -1), BAD);
        due("hear, BAD and OTHER", inState(SEALED).hear(0, 0, -1), BAD);
        due("hear, BAD and OTHER", inState(SEALED).hear(0, 0, 1000001), BAD);
        due("open, BAD and WHEN", inState(SEALED).open(0, BUY, 0, 2, 0), BAD);
        due("open, BAD and WHEN", inState(ORDERED).open(3, BUY, 30, 2, 0), BAD);
        due("open, BAD and WHEN, it is OPENED", inState(OPENED).open(0, BUY, 30, 0, 0), BAD);
        due("open, BAD and OTHER", inState(OPENED).open(1, 2, 2, 3, 1), BAD);
        due("order, BAD and WHEN", inState(SEALED).order(5, 0), BAD);
        due("order, BAD and WHEN", inState(OPENED).order(-1, 0), BAD);
        due("done, BAD and NONE", inState(ORDERED).done(3), BAD);
        due("passed, BAD and NONE", inState(ORDERED).passed(3), BAD);
        due("heard, BAD and NONE", inState(SEALED).heard(3), BAD);
        due("of, BAD and NONE", inState(SEALED).of(3, 2), BAD);
        due("of, BAD and NONE", inState(SEALED).of(0, 5), BAD);
    }

    private static void inTheOrderNamed() {
        FairOrder crowded = inState(CROWDED);
        due("commit, FULL before SHORT", crowded.commit(2, 1000, 0), FULL);
        crowded.next();
        due("commit, WHEN before FULL", crowded.commit(0, 0, 0), WHEN);
        due("commit, WHEN before FULL and SHORT", crowded.commit(2, 1000, 0), WHEN);
        due("commit, WHEN before SHORT", inState(OPENED).commit(1, 1000, 0), WHEN);
        due("hear, WHEN before OTHER", inState(OPENED).hear(0, 0, 1), WHEN);
        due("open, WHEN before OTHER, in PHASE 0", inState(SEALED).open(0, SELL, 1, 1, 1), WHEN);
        due("open, WHEN before OTHER, in PHASE 2", inState(UNORDERED).open(2, SELL, 1, 1, 1), WHEN);
        due("open, WHEN before OTHER, it is OPENED", inState(OPENED).open(0, SELL, 1, 1, 1), WHEN);
    }

    private static void refusalsChangeNothing() {
        refusedAccountsAndPools();
        refusedCommits();
        refusedTimes();
        refusedOpenings();
        refusedOrdersAndPlays();
    }

    private static void refusedAccountsAndPools() {
        for (int state = SEALED; state <= CROWDED; state++) {
            dueRefusal("account(-1, 1)", state, x -> x.account(-1, 1), BAD);
            dueRefusal("account(1, MOST + 1)", state, x -> x.account(1, MOST + 1), BAD);
            dueRefusal("pool(-1, 1)", state, x -> x.pool(-1, 1), BAD);
            dueRefusal("pool(1, MOST + 1)", state, x -> x.pool(1, MOST + 1), BAD);
            dueRefusal("seal(0, 0, 0, 0)", state, x -> x.seal(0, 0, 0, 0), 0);
            dueRefusal("of(0, 5)", state, x -> x.of(0, 5), BAD);
            dueRefusal("count(6)", state, x -> x.count(6), BAD);
            dueRefusal("linked(0, 3)", state, x -> x.linked(0, 16), BAD);
            dueRefusal("done(16)", state, x -> x.done(16), BAD);
            dueRefusal("gain(0, 5, 0)", state, x -> x.gain(0, 5, 0), 0);
        }
        dueRefusal("account, FULL", CROWDED, x -> x.account(1, 1), FULL);
    }

    private static void refusedCommits() {
        dueRefusal("commit(2, 1, 1)", SEALED, x -> x.commit(2, 1, 1), BAD);
        dueRefusal("commit(0, -1, 1)", SEALED, x -> x.commit(0, -1, 1), BAD);
        dueRefusal("commit(0, 1000001, 1)", SEALED, x -> x.commit(0, 1000001, 1), BAD);
        dueRefusal("commit, SHORT", SEALED, x -> x.commit(1, 11, 1), SHORT);
        dueRefusal("commit, FULL", CROWDED, x -> x.commit(0, 1, 1), FULL);
        for (int state = OPENED; state <= BATCHED; state++) {
            dueRefusal("commit, WHEN", state, x -> x.commit(0, 1, 1), WHEN);
        }
    }

    private static void refusedTimes() {
        dueRefusal("hear(5, 0, 1)", SEALED, x -> x.hear(5, 0, 1), BAD);
        dueRefusal("hear(2, 3, 1)", SEALED, x -> x.hear(2, 3, 1), BAD);
        dueRefusal("hear(2, 0, -1)", SEALED, x -> x.hear(2, 0, -1), BAD);
        dueRefusal("hear(2, 0, 1000001)", SEALED, x -> x.hear(2, 0, 1000001), BAD);
        dueRefusal("hear, OTHER", SEALED, x -> x.hear(0, 1, 9), OTHER);
        for (int state = OPENED; state <= BATCHED; state++) {
            dueRefusal("hear, WHEN", state, x -> x.hear(2, 0, 1), WHEN);
            dueRefusal("hear, WHEN", state, x -> x.hear(4, 1, 0), WHEN);
        }
    }

    private static void refusedOpenings() {
        dueRefusal("open(3, ..)", OPENED, x -> x.open(3, SELL, 2, 3, 1), BAD);
        dueRefusal("open with side 2", OPENED, x -> x.open(1, 2, 2, 3, 1), BAD);
        dueRefusal("open with price 0", OPENED, x -> x.open(1, SELL, 0, 3, 1), BAD);
        dueRefusal("open with amount 1001", OPENED, x -> x.open(1, SELL, 2, 1001, 1), BAD);
        dueRefusal("open, OTHER", OPENED, x -> x.open(1, SELL, 2, 4, 1), OTHER);
        dueRefusal("open, WHEN, it is OPENED", OPENED, x -> x.open(0, BUY, 30, 2, 0), WHEN);
        dueRefusal("open, WHEN, in PHASE 0", SEALED, x -> x.open(1, SELL, 2, 3, 1), WHEN);
        for (int state = UNORDERED; state <= BATCHED; state++) {
            dueRefusal("open, WHEN, in PHASE 2", state, x -> x.open(2, BUY, 9, 1, 2), WHEN);
        }
    }

    private static void refusedOrdersAndPlays() {
        for (int state = SEALED; state <= CROWDED; state++) {
            dueRefusal("order(5, 0)", state, x -> x.order(5, 0), BAD);
            dueRefusal("order(-1, 0)", state, x -> x.order(-1, 0), BAD);
        }
        int[] early = {SEALED, OPENED, CROWDED};
        for (int state : early) {
            dueRefusal("order, WHEN", state, x -> x.order(0, 0), WHEN);
        }
        int[] noneToPlay = {SEALED, OPENED, UNORDERED, PLAYED, BATCHED, CROWDED};
        for (int state : noneToPlay) {
            dueRefusal("play, WHEN", state, x -> x.play(), WHEN);
            dueRefusal("batch, WHEN", state, x -> x.batch(), WHEN);
            dueRefusal("gain, WHEN", state, x -> x.gain(0, 1, 0), 0);
        }
    }

    // ---- Promises 1 to 5

    private static void promises1To5() {
        test("1: No ACCOUNTS; a BLOCK without CALLS in PHASE 0", FairOrderEdges::newObjectHasNone);
        test("1: THE POOL, THE POT are empty", FairOrderEdges::newPoolAndPotAreEmpty);
        test("1: nothing was ordered or played", FairOrderEdges::nothingWasOrderedOrPlayed);
        test("2: All as at first", FairOrderEdges::allAsAtFirst);
        test("2: how many ACCOUNTS there were", FairOrderEdges::howManyAccountsThereWere);
        test("3: MONEY, GOODS 0 .. 1000000000", FairOrderEdges::boundsOfAccounts);
        test("3: its number", FairOrderEdges::accountsInEveryPhase);
        test("3: FULL", FairOrderEdges::fullOfAccounts);
        test("4: 0 .. 1000000000 each", FairOrderEdges::boundsOfThePool);
        test("4: THE POOL has so much", FairOrderEdges::poolIsPutNotAdded);
        test("5: side 0, 1", FairOrderEdges::sidesOfSeals);
        test("5: price 1 .. 1000", FairOrderEdges::pricesOfSeals);
        test("5: amount 1 .. 1000", FairOrderEdges::amountsOfSeals);
    }

    private static void newObjectHasNone() {
        FairOrder x = new FairOrder();
        for (int what = 0; what <= 4; what++) {
            due("count(" + what + ")", x.count(what), 0);
        }
        due("commit of account 0", x.commit(0, 0, 0), BAD);
        due("hear of call 0", x.hear(0, 0, 0), BAD);
        due("heard(0)", x.heard(0), BAD);
        due("of(0, 0)", x.of(0, 0), BAD);
        due("linked(0, 0)", x.linked(0, 0), BAD);
        x.next();
        due("open of call 0", x.open(0, BUY, 1, 1, 0), BAD);
        due("objects have nothing in common", inState(CROWDED).count(0), 8);
        due("objects have nothing in common", new FairOrder().count(0), 0);
    }

    private static void newPoolAndPotAreEmpty() {
        FairOrder x = new FairOrder();
        dueHoldings(x, POOL, 0, 0);
        dueHoldings(x, POT, 0, 0);
    }

    private static void nothingWasOrderedOrPlayed() {
        FairOrder x = new FairOrder();
        due("count(5)", x.count(5), 0);
        due("at(0)", x.at(0), NONE);
        due("play", x.play(), WHEN);
        due("batch", x.batch(), WHEN);
        due("gain", x.gain(0, 0, 0), 0);
        due("account", x.account(0, 0), 0);
        due("commit", x.commit(0, 0, 0), 0);
        due("done(0)", x.done(0), NONE);
        due("passed(0)", x.passed(0), NONE);
    }

    private static void allAsAtFirst() {
        for (int state = SEALED; state <= CROWDED; state++) {
            FairOrder x = inState(state);
            x.clear();
            due("all is as of a new object, " + state,
                everything(x).equals(everything(new FairOrder())) ? 1 : 0, 1);
            FairOrder y = new FairOrder();
            withSameBeginning(x);
            withSameBeginning(y);
            due("all goes as of a new object, " + state, future(x).equals(future(y)) ? 1 : 0, 1);
        }
        FairOrder ended = inState(UNORDERED);
        ended.next();
        due("BLOCKS that were ended", ended.count(4), 1);
        due("THE POT", ended.has(POT, 0), 7);
        ended.clear();
        due("no BLOCKS that were ended", ended.count(4), 0);
        due("THE POT is empty", ended.has(POT, 0), 0);
    }

    private static void withSameBeginning(FairOrder x) {
        x.account(10, 10);
        x.commit(0, 1, x.seal(BUY, 30, 2, 0));
        x.commit(0, 1, 5);
        x.hear(1, 0, 8);
    }

    private static void howManyAccountsThereWere() {
        FairOrder x = new FairOrder();
        due("of none", x.clear(), 0);
        x.account(0, 0);
        due("of one", x.clear(), 1);
        due("again", x.clear(), 0);
        for (int i = 0; i < 9; i++) {
            due("account", x.account(1, 1), i < 8 ? i : FULL);
        }
        due("of all", x.clear(), 8);
        due("again", x.clear(), 0);
    }

    private static void boundsOfAccounts() {
        FairOrder x = new FairOrder();
        long[] outside = {-1, MOST + 1, Long.MIN_VALUE, Long.MAX_VALUE, 1L << 32, -(1L << 32)};
        for (long sum : outside) {
            due("MONEY " + sum, x.account(sum, 1), BAD);
            due("GOODS " + sum, x.account(1, sum), BAD);
        }
        due("none was made", x.count(0), 0);
        due("least MONEY", x.account(0, MOST), 0);
        due("least GOODS", x.account(MOST, 0), 1);
        dueHoldings(x, 0, 0, MOST);
        dueHoldings(x, 1, MOST, 0);
    }

    private static void accountsInEveryPhase() {
        FairOrder x = new FairOrder();
        for (int i = 0; i < 4; i++) {
            due("in PHASE " + i % 3, x.account(i, i), i);
            dueHoldings(x, i, i, i);
            x.next();
        }
    }

    private static void fullOfAccounts() {
        FairOrder x = inState(CROWDED);
        for (int turn = 0; turn < 4; turn++) {
            due("a ninth", x.account(1, 1), FULL);
            due("count(0)", x.count(0), 8);
            x.next();
        }
        x.clear();
        due("no more behind clear", x.account(1, 1), 0);
    }

    private static void boundsOfThePool() {
        FairOrder x = new FairOrder();
        x.pool(3, 4);
        long[] outside = {-1, MOST + 1, Long.MIN_VALUE, Long.MAX_VALUE, 1L << 32, -(1L << 32)};
        for (long sum : outside) {
            due("MONEY " + sum, x.pool(sum, 1), BAD);
            due("GOODS " + sum, x.pool(1, sum), BAD);
        }
        dueHoldings(x, POOL, 3, 4);
        due("least MONEY", x.pool(0, MOST), 1);
        dueHoldings(x, POOL, 0, MOST);
        due("least GOODS", x.pool(MOST, 0), 1);
        dueHoldings(x, POOL, MOST, 0);
    }

    private static void poolIsPutNotAdded() {
        FairOrder x = new FairOrder();
        for (int i = 0; i < 4; i++) {
            due("in PHASE " + i % 3, x.pool(10 - i, 20 - i), 1);
            dueHoldings(x, POOL, 10 - i, 20 - i);
            x.next();
        }
        FairOrder y = inState(ORDERED);
        due("between order and play", y.pool(0, 0), 1);
        due("play", y.play(), 0);
    }

    private static void dueSealOrZero(int side, int price, int amount, boolean isSeal) {
        FairOrder x = new FairOrder();
        due("seal(" + side + ", " + price + ", " + amount + ", 3)", x.seal(side, price, amount, 3),
            isSeal ? sealByBigNumbers(side, price, amount, 3) : 0);
    }

    private static void sidesOfSeals() {
        dueSealOrZero(0, 5, 5, true);
        dueSealOrZero(1, 5, 5, true);
        dueSealOrZero(-1, 5, 5, false);
        dueSealOrZero(2, 5, 5, false);
        dueSealOrZero(LEAST_INT, 5, 5, false);
        dueSealOrZero(GREATEST_INT, 5, 5, false);
    }

    private static void pricesOfSeals() {
        dueSealOrZero(0, 1, 5, true);
        dueSealOrZero(0, 1000, 5, true);
        dueSealOrZero(0, 0, 5, false);
        dueSealOrZero(0, -1, 5, false);
        dueSealOrZero(0, 1001, 5, false);
        dueSealOrZero(0, LEAST_INT, 5, false);
        dueSealOrZero(0, GREATEST_INT, 5, false);
    }

    private static void amountsOfSeals() {
        dueSealOrZero(1, 5, 1, true);
        dueSealOrZero(1, 5, 1000, true);
        dueSealOrZero(1, 5, 0, false);
        dueSealOrZero(1, 5, -1, false);
        dueSealOrZero(1, 5, 1001, false);
        dueSealOrZero(1, 5, LEAST_INT, false);
        dueSealOrZero(1, 5, GREATEST_INT, false);
    }

    // ---- Promises 6 to 9

    private static void promises6To9() {
        test("6: BAD: account, deposit", FairOrderEdges::badCommits);
        test("6: WHEN: not PHASE 0", FairOrderEdges::commitsInOtherPhases);
        test("6: FULL", FairOrderEdges::fullOfCalls);
        test("6: SHORT: it has not so much MONEY", FairOrderEdges::commitsOfTooMuch);
        test("7: BAD", FairOrderEdges::badTimes);
        test("7: WHEN: not PHASE 0", FairOrderEdges::timesInOtherPhases);
        test("7: OTHER: it told of that one before", FairOrderEdges::toldBefore);
        test("8: BAD (side, price, amount as for seal(), call)", FairOrderEdges::badOpenings);
        test("8: WHEN: not PHASE 1", FairOrderEdges::openingsInOtherPhases);
        test("8: or it is OPENED", FairOrderEdges::openedTwice);
        test("8: OTHER: that has another SEAL", FairOrderEdges::anotherSeal);
        test("9: behind 2 a new BLOCK, in PHASE 0", FairOrderEdges::newBlockBehind2);
    }

    private static void badCommits() {
        FairOrder x = withAccounts(MOST, 0, MOST, 0);
        int[] accounts = {-1, -2, 2, 8, LEAST_INT, GREATEST_INT};
        for (int account : accounts) {
            due("account " + account, x.commit(account, 0, 0), BAD);
        }
        long[] deposits = {-1, 1000001, Long.MIN_VALUE, Long.MAX_VALUE, 1L << 32, -(1L << 32)};
        for (long deposit : deposits) {
            due("deposit " + deposit, x.commit(0, deposit, 0), BAD);
        }
        due("count(1)", x.count(1), 0);
        long[] seals = {Long.MIN_VALUE, -1, 0, Long.MAX_VALUE};
        for (int i = 0; i < seals.length; i++) {
            due("seal " + seals[i], x.commit(1, 1000000, seals[i]), i);
        }
        dueHoldings(x, 0, MOST, 0);
        dueHoldings(x, 1, MOST - 4000000, 0);
    }

    private static void commitsInOtherPhases() {
        FairOrder x = withAccounts(5, 0);
        x.next();
        due("in PHASE 1", x.commit(0, 1, 0), WHEN);
        x.next();
        due("in PHASE 2", x.commit(0, 1, 0), WHEN);
        x.order(0, 0);
        x.play();
        due("when played", x.commit(0, 1, 0), WHEN);
        x.next();
        due("in PHASE 0", x.commit(0, 1, 0), 0);
        dueHoldings(x, 0, 4, 0);
    }

    private static void fullOfCalls() {
        FairOrder x = inState(CROWDED);
        due("a seventeenth", x.commit(0, 1, 0), FULL);
        due("of another account", x.commit(7, 0, 0), FULL);
        toPhase(x, 2);
        toPhase(x, 0);
        due("in a new BLOCK", x.commit(0, 1, 0), 0);
    }

    private static void commitsOfTooMuch() {
        FairOrder x = withAccounts(10, 1000, 0, 1000);
        due("one more than it has", x.commit(0, 11, 0), SHORT);
        due("what it has", x.commit(0, 10, 0), 0);
        due("of nothing", x.commit(0, 1, 0), SHORT);
        due("of nothing, nothing", x.commit(0, 0, 0), 1);
        due("of nothing at first", x.commit(1, 1, 0), SHORT);
        due("of nothing at first, nothing", x.commit(1, 0, 0), 2);
        dueHoldings(x, 0, 0, 1000);
    }

    private static void badTimes() {
        FairOrder x = inState(SEALED);
        int[] nodes = {-1, 5, LEAST_INT, GREATEST_INT};
        for (int node : nodes) {
            due("node " + node, x.hear(node, 2, 1), BAD);
        }
        int[] numbers = {-1, 3, 16, LEAST_INT, GREATEST_INT};
        for (int number : numbers) {
            due("call " + number, x.hear(2, number, 1), BAD);
        }
        int[] times = {-1, 1000001, LEAST_INT, GREATEST_INT};
        for (int time : times) {
            due("time " + time, x.hear(2, 2, time), BAD);
        }
        due("node 2 has told none", x.hear(2, 2, 1), 1);
    }

    private static void timesInOtherPhases() {
        FairOrder x = inState(OPENED);
        due("in PHASE 1", x.hear(2, 0, 1), WHEN);
        x.next();
        due("in PHASE 2", x.hear(2, 0, 1), WHEN);
        x.next();
        x.commit(0, 0, 0);
        due("in PHASE 0", x.hear(2, 0, 1), 1);
    }

    private static void toldBefore() {
        FairOrder x = withAccounts(0, 0);
        x.commit(0, 0, 0);
        x.commit(0, 0, 0);
        int[] times = {0, 1000000};
        for (int node = 0; node < 2; node++) {
            due("the first one", x.hear(node, 0, times[node]), 1);
            due("the same", x.hear(node, 0, times[node]), OTHER);
            due("another one", x.hear(node, 0, 7), OTHER);
            due("of another CALL", x.hear(node, 1, times[node]), 1);
        }
        due("another NODE", x.hear(4, 0, 0), 1);
        due("heard(0) is of the first ones", x.heard(0), 1000000);
        toPhase(x, 2);
        toPhase(x, 0);
        x.commit(0, 0, 0);
        due("of another BLOCK's CALL", x.hear(0, 0, 0), 1);
    }

    private static void badOpenings() {
        FairOrder x = inState(OPENED);
        int[] sides = {-1, 2, LEAST_INT, GREATEST_INT};
        for (int side : sides) {
            due("side " + side, x.open(1, side, 2, 3, 1), BAD);
        }
        int[] outside = {0, -1, 1001, LEAST_INT, GREATEST_INT};
        for (int number : outside) {
            due("price " + number, x.open(1, SELL, number, 3, 1), BAD);
            due("amount " + number, x.open(1, SELL, 2, number, 1), BAD);
        }
        int[] numbers = {-1, 3, 16, LEAST_INT, GREATEST_INT};
        for (int number : numbers) {
            due("call " + number, x.open(number, SELL, 2, 3, 1), BAD);
        }
        due("count(3)", x.count(3), 1);
        FairOrder zero = withAccounts(0, 0);
        zero.commit(0, 0, 0);
        zero.next();
        due("what seal() answers by 0 has no SEAL", zero.open(0, BUY, 0, 0, 0), BAD);
        openingsOfTheEdges();
    }

    private static void openingsOfTheEdges() {
        FairOrder x = withAccounts(0, 0);
        int[][] terms = {call(0, BUY, 1, 1), call(0, SELL, 1000, 1000), call(0, BUY, 1, 1000), call(0, SELL, 1000, 1)};
        prepare(x, terms);
        for (int c = 0; c < terms.length; c++) {
            for (int what = 1; what < 4; what++) {
                due("of(" + c + ", " + (what + 1) + ")", x.of(c, what + 1), terms[c][what]);
            }
        }
    }

    private static void openingsInOtherPhases() {
        FairOrder x = inState(SEALED);
        due("in PHASE 0", x.open(1, SELL, 2, 3, 1), WHEN);
        x.next();
        due("in PHASE 1", x.open(1, SELL, 2, 3, 1), 1);
        x.next();
        due("in PHASE 2", x.open(2, BUY, 9, 1, 2), WHEN);
        due("count(3)", x.count(3), 1);
    }

    private static void openedTwice() {
        FairOrder x = inState(OPENED);
        dueHoldings(x, 0, 993, 20);
        due("the same again", x.open(0, BUY, 30, 2, 0), WHEN);
        due("another one", x.open(0, BUY, 31, 2, 0), WHEN);
        dueHoldings(x, 0, 993, 20);
        due("price", x.of(0, 3), 30);
        due("count(3)", x.count(3), 1);
    }

    private static void anotherSeal() {
        FairOrder x = inState(OPENED);
        due("another CALL's", x.open(1, BUY, 30, 2, 0), OTHER);
        due("another salt", x.open(1, SELL, 2, 3, 2), OTHER);
        due("side", x.of(1, 2), NONE);
        dueHoldings(x, 1, 10, 50);
        due("its own, behind refusals", x.open(1, SELL, 2, 3, 1), 1);
        dueHoldings(x, 1, 15, 50);
    }

    private static void newBlockBehind2() {
        for (int state = UNORDERED; state <= BATCHED; state++) {
            FairOrder x = inState(state);
            long money = x.has(0, 0);
            long goods = x.has(0, 1);
            long poolMoney = x.has(POOL, 0);
            long poolGoods = x.has(POOL, 1);
            due("next", x.next(), 0);
            int[] counts = {2, 0, 0, 0, 1, 0};
            for (int what = 0; what <= 5; what++) {
                due("count(" + what + ")", x.count(what), counts[what]);
            }
            dueHoldings(x, 0, money, goods);
            dueHoldings(x, POOL, poolMoney, poolGoods);
            dueHoldings(x, POT, 7, 0);
            due("done(0)", x.done(0), BAD);
            due("at(0)", x.at(0), NONE);
            due("play", x.play(), WHEN);
            due("commit", x.commit(0, 0, 0), 0);
            due("its account", x.of(0, 0), 0);
            due("its price", x.of(0, 3), NONE);
            due("its TIME", x.heard(0), NONE);
            due("done(0)", x.done(0), NONE);
            due("passed(0)", x.passed(0), NONE);
        }
    }

    // ---- Promises 10 to 13

    private static void promises10To13() {
        test("10: The ORDER 0 .. 4 is made", FairOrderEdges::kindsOfOrders);
        test("10: how many CALLS are in it", FairOrderEdges::howManyAreInIt);
        test("10: WHEN: not PHASE 2", FairOrderEdges::ordersInOtherPhases);
        test("11: of the ORDER made last in this BLOCK", FairOrderEdges::atOfTheLastOrder);
        test("11: NONE: there is none such", FairOrderEdges::noPlaceSuch);
        test("12: Whether a is LINKED to b", FairOrderEdges::linkedToItself);
        test("12: BAD: also not OPENED", FairOrderEdges::linksOfNotOpened);
        test("13: NONE: fewer than three NODES told one", FairOrderEdges::fewerThanThreeNodes);
        test("13: BAD", FairOrderEdges::heardOfNoCall);
    }

    private static void kindsOfOrders() {
        int[] kinds = {-1, 5, LEAST_INT, GREATEST_INT};
        for (int kind : kinds) {
            FairOrder x = inState(UNORDERED);
            due("order(" + kind + ", 0)", x.order(kind, 0), BAD);
            due("none was made", x.play(), WHEN);
        }
        for (int kind = 0; kind <= 4; kind++) {
            FairOrder x = inState(UNORDERED);
            due("order(" + kind + ", 0)", x.order(kind, 0), 2);
            due("one was made", x.batch(), 2);
        }
    }

    private static void howManyAreInIt() {
        for (int kind = 0; kind <= 4; kind++) {
            due("of a BLOCK without CALLS", plainBlock(0).order(kind, 1), 0);
            due("of one CALL", plainBlock(1).order(kind, 1), 1);
            due("of all sixteen", plainBlock(16).order(kind, 1), 16);
            FairOrder x = withAccounts(0, 0);
            commitAll(x, plainTerms(16));
            x.next();
            x.open(15, BUY, 1, 1, 15);
            x.next();
            due("of sixteen, one of them OPENED", x.order(kind, 1), 1);
            due("at(0)", x.at(0), 15);
        }
    }

    private static void ordersInOtherPhases() {
        FairOrder x = inState(SEALED);
        for (int kind = 0; kind <= 4; kind++) {
            due("in PHASE 0", x.order(kind, 0), WHEN);
        }
        x.next();
        x.open(0, BUY, 30, 2, 0);
        for (int kind = 0; kind <= 4; kind++) {
            due("in PHASE 1", x.order(kind, 0), WHEN);
        }
        due("count(5)", x.count(5), 0);
        x.next();
        due("in PHASE 2", x.order(0, 0), 1);
        x.next();
        due("in the next BLOCK's PHASE 0", x.order(0, 0), WHEN);
    }

    private static void atOfTheLastOrder() {
        FairOrder x = inState(UNORDERED);
        dueOrder(x, 1, 0, 0, 1);
        dueOrder(x, 3, 0, 1, 0);
        x.order(7, 0);
        due("behind a refused one", x.at(0), 1);
        x.play();
        due("when played", x.at(0), 1);
        dueOrder(x, 0, 0, 0, 1);
        x.next();
        due("in a new BLOCK", x.at(0), NONE);
    }

    private static void noPlaceSuch() {
        FairOrder x = inState(UNORDERED);
        due("none was made", x.at(0), NONE);
        x.order(0, 0);
        int[] places = {-1, 2, 15, 16, LEAST_INT, GREATEST_INT};
        for (int place : places) {
            due("at(" + place + ")", x.at(place), NONE);
        }
        FairOrder all = plainBlock(16);
        all.order(0, 0);
        due("the last of sixteen", all.at(15), 15);
        due("behind the last of sixteen", all.at(16), NONE);
        FairOrder none = plainBlock(0);
        none.order(0, 0);
        due("of none", none.at(0), NONE);
    }

    private static void linkedToItself() {
        FairOrder x = heardBlock(
            times(1, 2, 3), times(2, 3, 1), times(3, 1, 2), times(7, 7, 7), times(7, 7, 7));
        for (int i = 0; i < 3; i++) {
            due("in a KNOT of three, over the others", x.linked(i, i), 1);
        }
        due("in a KNOT of its own", x.linked(3, 3), 0);
        dueLinks(x, 3, 4, 0, 0);
        dueLinks(x, 0, 3, 1, 0);
    }

    private static void linksOfNotOpened() {
        FairOrder x = inState(SEALED);
        due("in PHASE 0", x.linked(1, 0), BAD);
        FairOrder y = inState(OPENED);
        due("a is OPENED alone", y.linked(0, 1), BAD);
        due("b is OPENED alone", y.linked(1, 0), BAD);
        due("none of them", y.linked(1, 2), BAD);
        due("one to itself", y.linked(2, 2), BAD);
        FairOrder z = inState(UNORDERED);
        due("both are OPENED", z.linked(1, 0), 1);
        int[] numbers = {-1, 2, 3, 16, LEAST_INT, GREATEST_INT};
        for (int number : numbers) {
            due("linked(0, " + number + ")", z.linked(0, number), BAD);
            due("linked(" + number + ", 0)", z.linked(number, 0), BAD);
        }
        z.next();
        due("in a new BLOCK", z.linked(1, 0), BAD);
    }

    private static void fewerThanThreeNodes() {
        FairOrder x = withAccounts(0, 0);
        x.commit(0, 0, 0);
        due("none", x.heard(0), NONE);
        x.hear(4, 0, 1000000);
        due("one", x.heard(0), NONE);
        x.hear(0, 0, 0);
        due("two", x.heard(0), NONE);
        x.hear(2, 0, 1000000);
        due("three", x.heard(0), 1000000);
        x.hear(1, 0, 1);
        due("four", x.heard(0), 1000000);
        x.hear(3, 0, 1);
        due("five", x.heard(0), 1);
        toPhase(x, 2);
        due("of one that was not OPENED", x.heard(0), 1);
    }

    private static void heardOfNoCall() {
        FairOrder x = inState(SEALED);
        int[] numbers = {-1, 3, 16, LEAST_INT, GREATEST_INT};
        for (int number : numbers) {
            due("heard(" + number + ")", x.heard(number), BAD);
        }
        toPhase(x, 2);
        toPhase(x, 0);
        due("of an earlier BLOCK", x.heard(0), BAD);
    }

    // ---- Promises 14 to 17

    private static void promises14To17() {
        test("14: how many CALLS are DONE", FairOrderEdges::howManyAreDone);
        test("14: WHEN: none was made in this BLOCK", FairOrderEdges::playsOfNone);
        test("14: or one was played in it", FairOrderEdges::playedTwice);
        test("15: NONE: the greatest VOLUME is 0", FairOrderEdges::noVolume);
        test("15: nothing changes but that it was played", FairOrderEdges::playedWithoutVolume);
        test("15: WHEN likewise", FairOrderEdges::batchesRefused);
        test("16: how much of it was done (0: LEFT)", FairOrderEdges::doneOfTheLeft);
        test("16: BAD; NONE: nothing was played", FairOrderEdges::doneOfNone);
        test("17: What MONEY passed for it", FairOrderEdges::passedForIt);
        test("17: BAD, NONE likewise", FairOrderEdges::passedOfNone);
    }

    private static void howManyAreDone() {
        FairOrder none = plainBlock(0);
        none.order(0, 0);
        due("of none", none.play(), 0);
        FairOrder left = plainBlock(16);
        left.order(0, 0);
        due("all are LEFT", left.play(), 0);
        FairOrder all = withAccounts(0, 0);
        all.pool(0, 17);
        prepareInOrder(all, plainTerms(16));
        due("all sixteen, for nothing", all.play(), 16);
        dueHoldings(all, 0, 0, 16);
        dueHoldings(all, POOL, 0, 1);
        FairOrder butOne = withAccounts(0, 0);
        butOne.pool(0, 16);
        prepareInOrder(butOne, plainTerms(16));
        due("all but the last", butOne.play(), 15);
    }

    private static void playsOfNone() {
        int[] states = {SEALED, OPENED, UNORDERED};
        for (int state : states) {
            due("none was made", inState(state).play(), WHEN);
        }
        FairOrder x = inState(ORDERED);
        x.next();
        due("in the next BLOCK", x.play(), WHEN);
        toPhase(x, 2);
        due("in the next BLOCK's PHASE 2", x.play(), WHEN);
        x.order(0, 0);
        due("one was made", x.play(), 0);
    }

    private static void playedTwice() {
        FairOrder x = inState(PLAYED);
        due("by play", x.play(), WHEN);
        FairOrder y = inState(BATCHED);
        due("by batch", y.play(), WHEN);
        FairOrder z = inState(PLAYED);
        long money = z.has(0, 0);
        due("order", z.order(1, 0), 2);
        due("another ORDER", z.play(), WHEN);
        due("has(0, 0)", z.has(0, 0), money);
        z.next();
        toPhase(z, 2);
        z.order(0, 0);
        due("in another BLOCK", z.play(), 0);
    }

    private static void noVolume() {
        FairOrder none = plainBlock(0);
        none.order(0, 0);
        due("of none", none.batch(), NONE);
        FairOrder buys = withAccounts(100, 100);
        prepareInOrder(buys, call(0, BUY, 5, 1), call(0, BUY, 1000, 1));
        due("BUYS alone", buys.batch(), NONE);
        FairOrder sells = withAccounts(100, 100);
        prepareInOrder(sells, call(0, SELL, 5, 1), call(0, SELL, 1, 1));
        due("SELLS alone", sells.batch(), NONE);
        FairOrder apart = withAccounts(100, 100);
        prepareInOrder(apart, call(0, BUY, 5, 1), call(0, SELL, 6, 1));
        due("a SELL above the BUY", apart.batch(), NONE);
        FairOrder poor = withAccounts(4, 100);
        prepareInOrder(poor, call(0, BUY, 5, 1), call(0, SELL, 5, 1));
        due("not enough MONEY", poor.batch(), NONE);
        FairOrder bare = withAccounts(100, 0);
        prepareInOrder(bare, call(0, BUY, 5, 1), call(0, SELL, 5, 1));
        due("no GOODS", bare.batch(), NONE);
    }

    private static void playedWithoutVolume() {
        FairOrder x = withAccounts(100, 100);
        x.pool(50, 60);
        prepareInOrder(x, call(0, BUY, 5, 1), call(0, SELL, 6, 1));
        due("batch", x.batch(), NONE);
        dueHoldings(x, 0, 100, 100);
        dueHoldings(x, POOL, 50, 60);
        dueHoldings(x, POT, 0, 0);
        due("count(5)", x.count(5), 2);
        dueDone(x, 0, 0);
        duePassed(x, 0, 0);
        due("play", x.play(), WHEN);
        due("batch again", x.batch(), WHEN);
        due("gain", x.gain(0, 1, 1), 0);
    }

    private static void batchesRefused() {
        int[] states = {SEALED, OPENED, UNORDERED};
        for (int state : states) {
            due("none was made", inState(state).batch(), WHEN);
        }
        due("played by play", inState(PLAYED).batch(), WHEN);
        due("played by batch", inState(BATCHED).batch(), WHEN);
        FairOrder x = inState(BATCHED);
        x.order(1, 0);
        due("another ORDER", x.batch(), WHEN);
        x.next();
        due("in the next BLOCK", x.batch(), WHEN);
        toPhase(x, 2);
        due("in the next BLOCK's PHASE 2", x.batch(), WHEN);
        x.order(0, 0);
        due("one was made", x.batch(), NONE);
    }

    private static void doneOfTheLeft() {
        FairOrder played = inState(PLAYED);
        dueDone(played, 2, 3, 0);
        FairOrder batched = inState(BATCHED);
        dueDone(batched, 2, 2, 0);
        FairOrder x = inState(PLAYED);
        x.order(0, 0);
        dueDone(x, 2, 3, 0);
        FairOrder later = withAccounts(0, 0);
        later.pool(0, 17);
        prepareInOrder(later, plainTerms(1));
        later.play();
        dueDone(later, 1);
        later.next();
        later.pool(0, 0);
        prepareInOrder(later, plainTerms(1));
        later.play();
        dueDone(later, 0);
    }

    private static void doneOfNone() {
        for (int state = SEALED; state <= ORDERED; state++) {
            FairOrder x = inState(state);
            due("nothing was played", x.done(0), NONE);
            due("nothing was played", x.done(2), NONE);
            due("no CALL", x.done(3), BAD);
        }
        FairOrder played = inState(PLAYED);
        int[] numbers = {-1, 3, 16, LEAST_INT, GREATEST_INT};
        for (int number : numbers) {
            due("done(" + number + ")", played.done(number), BAD);
        }
        played.next();
        due("no CALL in a new BLOCK", played.done(0), BAD);
        played.commit(0, 0, 0);
        due("nothing was played in a new BLOCK", played.done(0), NONE);
    }

    private static void passedForIt() {
        FairOrder played = inState(PLAYED);
        // The SELL of 3 in front: 300 * 3 / 43 = 20; then 280 * 2 / 41, up: 14.
        duePassed(played, 14, 20, 0);
        dueHoldings(played, 0, 1000 - 7 - 14, 22);
        dueHoldings(played, 1, 15 + 20, 47);
        FairOrder batched = inState(BATCHED);
        duePassed(batched, 4, 4, 0);
        FairOrder nothing = withAccounts(0, 0);
        nothing.pool(0, 2);
        prepareInOrder(nothing, call(0, BUY, 1, 1), call(0, BUY, 1, 1));
        due("play", nothing.play(), 1);
        dueDone(nothing, 1, 0);
        duePassed(nothing, 0, 0);
    }

    private static void passedOfNone() {
        for (int state = SEALED; state <= ORDERED; state++) {
            FairOrder x = inState(state);
            due("nothing was played", x.passed(0), NONE);
            due("nothing was played", x.passed(2), NONE);
            due("no CALL", x.passed(3), BAD);
        }
        FairOrder played = inState(PLAYED);
        int[] numbers = {-1, 3, 16, LEAST_INT, GREATEST_INT};
        for (int number : numbers) {
            due("passed(" + number + ")", played.passed(number), BAD);
        }
        played.next();
        due("no CALL in a new BLOCK", played.passed(0), BAD);
        played.commit(0, 0, 0);
        due("nothing was played in a new BLOCK", played.passed(0), NONE);
    }

    // ---- Promises 18 to 21

    private static void promises18To21() {
        test("18: with its CALL at place i taken out and put at place j", FairOrderEdges::takenOutAndPut);
        test("18: how much more that CALL's ACCOUNT would have then", FairOrderEdges::moreOrLess);
        test("18: 0: there are no such places", FairOrderEdges::noSuchPlaces);
        test("18: or WHEN as play()", FairOrderEdges::gainsRefused);
        test("18: nothing changes", FairOrderEdges::gainsChangeNothing);
        test("19: account -1: of THE POOL; -2: of THE POT (GOODS 0)", FairOrderEdges::poolAndPot);
        test("19: 0: there is none such", FairOrderEdges::noneSuch);
        test("20: 2 to 4 NONE: not OPENED", FairOrderEdges::termsOfNotOpened);
        test("20: BAD", FairOrderEdges::badOf);
        test("21: What = 0 how many ACCOUNTS, 1 CALLS, 2 the PHASE, 3 OPENED ones, 4 BLOCKS that were ended",
            FairOrderEdges::countsOfNoneAndAll);
        test("21: 5 CALLS in the ORDER made last in this BLOCK (0: none)", FairOrderEdges::countsOfOrders);
        test("21: BAD", FairOrderEdges::badCounts);
    }

    // Sells of one good each, of accounts 0, 1, 2: 1000 / 2 = 500, 500 / 3 = 166, 334 / 4 = 83 by places.
    private static FairOrder threeSells() {
        FairOrder x = withAccounts(0, 1, 0, 1, 0, 1);
        x.pool(1000, 1);
        prepareInOrder(x, call(0, SELL, 1, 1), call(1, SELL, 1, 1), call(2, SELL, 84, 1));
        return x;
    }

    private static void takenOutAndPut() {
        FairOrder x = threeSells();
        for (int i = 0; i < 3; i++) {
            due("to its own place", x.gain(i, i, 0), 0);
        }
        due("the first to the second place", x.gain(0, 1, 0), 166 - 500);
        // 1 has 500 and 2 has 166 then.
        due("the first to the last place", x.gain(0, 2, 0), 83 - 500);
        due("the second to the first place", x.gain(1, 0, 0), 500 - 166);
        due("the second to the last place", x.gain(1, 2, 0), 83 - 166);
        // As it is, 2 is LEFT, as 83 is below 84.
        due("the last to the first place", x.gain(2, 0, 0), 500);
        due("the last to the first place, GOODS", x.gain(2, 0, 1), -1);
        due("the last to the second place", x.gain(2, 1, 0), 166);
        putNotChangedForOneAnother();
    }

    private static void putNotChangedForOneAnother() {
        // The last in front makes 2, 0, 1; changed for one another it would be 2, 1, 0.
        FairOrder y = withAccounts(11, 0, 0, 5);
        y.pool(100, 10);
        prepareInOrder(y, call(0, BUY, 11, 1), call(1, SELL, 8, 1), call(1, SELL, 1, 1));
        // As it is 9 and 7 pass to account 1; then 9, and 9 behind the BUY; 9 alone in the other row.
        due("the last in front", y.gain(2, 0, 0), 2);
        // The first behind all makes 1, 2, 0: 9 and 7 pass, then 84 / 11, up: 8.
        due("the first behind all", y.gain(0, 2, 0), -8);
        due("the first behind all, GOODS", y.gain(0, 2, 1), 1);
    }

    private static void moreOrLess() {
        FairOrder x = threeSells();
        due("more", x.gain(1, 0, 0), 334);
        due("less", x.gain(0, 1, 0), -334);
        due("as much", x.gain(0, 1, 1), 0);
        due("GOODS less", x.gain(2, 1, 1), -1);
        // All of the ACCOUNT counts, its other CALLS too: it sells both, in the one row or the other.
        FairOrder y = withAccounts(0, 2);
        y.pool(1000, 1);
        prepareInOrder(y, call(0, SELL, 1, 1), call(0, SELL, 1, 1));
        due("of two CALLS of one ACCOUNT", y.gain(0, 1, 0), 0);
        FairOrder great = withAccounts(0, 1000, 0, 1000);
        great.pool(MOST, 0);
        prepareInOrder(great, call(0, SELL, 1000, 1000), call(1, SELL, 1000, 1000));
        due("the greatest", great.gain(1, 0, 0), MOST);
        due("the least", great.gain(0, 1, 0), -MOST);
    }

    private static void noSuchPlaces() {
        // With GOODS for more, each CALL that came twice or was missed would show.
        FairOrder x = withAccounts(0, 9, 0, 9, 0, 9);
        x.pool(1000, 1);
        prepareInOrder(x, call(0, SELL, 1, 1), call(1, SELL, 1, 1), call(2, SELL, 1, 1));
        int[] places = {-1, 3, 15, 16, LEAST_INT, GREATEST_INT};
        for (int place : places) {
            for (int what = 0; what <= 1; what++) {
                due("from and to place " + place, x.gain(place, place, what), 0);
                for (int other = 0; other < 3; other++) {
                    due("from place " + place + " to " + other, x.gain(place, other, what), 0);
                    due("from place " + other + " to " + place, x.gain(other, place, what), 0);
                }
            }
        }
        int[] whats = {-1, 2, LEAST_INT, GREATEST_INT};
        for (int what : whats) {
            due("what " + what, threeSells().gain(2, 0, what), 0);
        }
        FairOrder none = plainBlock(0);
        none.order(0, 0);
        due("of an ORDER of none", none.gain(0, 0, 0), 0);
    }

    private static void gainsRefused() {
        FairOrder x = withAccounts(0, 1, 0, 1);
        x.pool(1000, 1);
        prepare(x, call(0, SELL, 1, 1), call(1, SELL, 1, 1));
        due("none was made", x.gain(0, 1, 0), 0);
        x.order(0, 0);
        due("one was made", x.gain(0, 1, 0), -334);
        x.play();
        due("it was played", x.gain(0, 1, 0), 0);
        x.order(0, 0);
        x.pool(1000, 1);
        due("another ORDER", x.gain(0, 1, 0), 0);
        FairOrder y = threeSells();
        y.batch();
        due("it was played at one price", y.gain(2, 0, 0), 0);
        FairOrder z = threeSells();
        z.next();
        due("in the next BLOCK", z.gain(2, 0, 0), 0);
    }

    private static void gainsChangeNothing() {
        FairOrder x = threeSells();
        for (int i = 0; i < 3; i++) {
            for (int j = 0; j < 3; j++) {
                x.gain(i, j, 0);
                x.gain(i, j, 1);
            }
        }
        for (int i = 0; i < 3; i++) {
            due("at(" + i + ")", x.at(i), i);
            due("done(" + i + ")", x.done(i), NONE);
            due("passed(" + i + ")", x.passed(i), NONE);
            dueHoldings(x, i, 0, 1);
        }
        dueHoldings(x, POOL, 1000, 1);
        due("play", x.play(), 2);
        dueDone(x, 1, 1, 0);
        duePassed(x, 500, 166, 0);
    }

    private static void poolAndPot() {
        FairOrder x = withAccounts(5, 6);
        x.pool(7, 8);
        x.commit(0, 3, 0);
        dueHoldings(x, POT, 0, 0);
        toPhase(x, 2);
        dueHoldings(x, 0, 2, 6);
        dueHoldings(x, POOL, 7, 8);
        dueHoldings(x, POT, 3, 0);
    }

    private static void noneSuch() {
        FairOrder x = inState(UNORDERED);
        int[] accounts = {2, 7, 8, 9, -3, LEAST_INT, GREATEST_INT};
        for (int account : accounts) {
            dueHoldings(x, account, 0, 0);
        }
        int[] whats = {-1, 2, LEAST_INT, GREATEST_INT};
        for (int what : whats) {
            for (int account = POT; account <= 2; account++) {
                due("has(" + account + ", " + what + ")", x.has(account, what), 0);
            }
        }
        FairOrder cleared = inState(CROWDED);
        cleared.clear();
        for (int account = 0; account <= 8; account++) {
            dueHoldings(cleared, account, 0, 0);
        }
    }

    private static void termsOfNotOpened() {
        for (int state = SEALED; state <= BATCHED; state++) {
            FairOrder x = inState(state);
            due("its ACCOUNT", x.of(2, 0), 0);
            due("whether it is OPENED", x.of(2, 1), 0);
            due("side", x.of(2, 2), NONE);
            due("price", x.of(2, 3), NONE);
            due("amount", x.of(2, 4), NONE);
        }
        FairOrder opened = inState(OPENED);
        int[] wants = {0, 1, BUY, 30, 2};
        for (int what = 0; what <= 4; what++) {
            due("of(0, " + what + ")", opened.of(0, what), wants[what]);
        }
    }

    private static void badOf() {
        FairOrder x = inState(OPENED);
        int[] outside = {-1, 5, LEAST_INT, GREATEST_INT};
        for (int what : outside) {
            due("of an OPENED one, what " + what, x.of(0, what), BAD);
            due("of one not OPENED, what " + what, x.of(1, what), BAD);
        }
        int[] numbers = {-1, 3, 16, LEAST_INT, GREATEST_INT};
        for (int number : numbers) {
            for (int what = 0; what <= 4; what++) {
                due("of(" + number + ", " + what + ")", x.of(number, what), BAD);
            }
        }
        toPhase(x, 0);
        due("of an earlier BLOCK", x.of(0, 0), BAD);
    }

    private static void dueCounts(FairOrder x, int... wants) {
        for (int what = 0; what < wants.length; what++) {
            due("count(" + what + ")", x.count(what), wants[what]);
        }
    }

    private static void countsOfNoneAndAll() {
        FairOrder x = new FairOrder();
        dueCounts(x, 0, 0, 0, 0, 0);
        for (int i = 0; i < 8; i++) {
            x.account(0, 0);
        }
        commitAll(x, plainTerms(16));
        dueCounts(x, 8, 16, 0, 0, 0);
        x.next();
        for (int i = 0; i < 16; i++) {
            dueCounts(x, 8, 16, 1, i, 0);
            x.open(i, BUY, 1, 1, i);
        }
        dueCounts(x, 8, 16, 1, 16, 0);
        x.next();
        dueCounts(x, 8, 16, 2, 16, 0);
        x.next();
        dueCounts(x, 8, 0, 0, 0, 1);
        toPhase(x, 2);
        dueCounts(x, 8, 0, 2, 0, 1);
        x.next();
        dueCounts(x, 8, 0, 0, 0, 2);
    }

    private static void countsOfOrders() {
        FairOrder x = plainBlock(16);
        due("none was made", x.count(5), 0);
        x.order(0, 0);
        due("one was made", x.count(5), 16);
        x.order(5, 0);
        due("behind a refused one", x.count(5), 16);
        x.play();
        due("when played", x.count(5), 16);
        x.next();
        due("in the next BLOCK", x.count(5), 0);
        FairOrder none = plainBlock(0);
        none.order(0, 0);
        due("one of none", none.count(5), 0);
    }

    private static void badCounts() {
        int[] outside = {-1, 6, LEAST_INT, GREATEST_INT};
        for (int state = SEALED; state <= CROWDED; state++) {
            for (int what : outside) {
                due("count(" + what + ")", inState(state).count(what), BAD);
            }
        }
    }
}
