/** Promises 1 to 6 and 20: a new object, account, lock, funds, next, sign, told. */
public final class AccountsTest {
    private static final int BAD = SignedCalls.BAD, NONE = SignedCalls.NONE, FULL = SignedCalls.FULL;
    private static final long MOST = 1_000_000_000_000L;

    public static void main(String[] args) {
        aNewObject();
        objectsAreApart();
        accountsAreNumbered();
        accountRefuses();
        locksAreTested();
        lockChanges();
        lockRefuses();
        fundsAndNextRefuse();
        signaturesAreNumbered();
        signRefuses();
        toldRefuses();
        Due.end();
    }

    private static void aNewObject() {
        SignedCalls x = new SignedCalls();
        Due.told(x, 0, 0, 0, 0, 0, 0);
        Due.is("paid()", x.paid(), 0);
        Due.is("digest()", x.digest(), 0);
        Due.is("offer()", x.offer(), NONE);
        Due.is("until(0)", x.until(0), NONE);
        Due.is("from(0)", x.from(0), NONE);
        Due.is("sponsor(-1)", x.sponsor(-1), NONE);
        Due.is("funds(0)", x.funds(0), BAD);
        Due.is("next(0)", x.next(0), BAD);
        Due.is("add(0)", x.add(0), BAD);
        Due.is("act(0, 0)", x.act(0, 0), BAD);
        Due.is("waiting(0, 0)", x.waiting(0, 0), BAD);
        Due.is("event(0, 0)", x.event(0, 0), BAD);
        Due.is("step(1)", x.step(1), 1);
        Due.is("block(10000)", x.block(10000), 0);
    }

    private static void objectsAreApart() {
        SignedCalls x = Due.withAccounts(100);
        SignedCalls y = new SignedCalls();
        Due.is("offer", Due.offered(x, 0, 0, 1, 10, 0, 0), 0);
        x.block(0);
        x.step(9);
        Due.told(x, 1, 1, 1, 1, 0, 1);
        Due.told(y, 0, 0, 0, 0, 0, 0);
        Due.is("step(2)", y.step(2), 1);
        Due.is("offer()", y.offer(), NONE);
    }

    private static void accountsAreNumbered() {
        SignedCalls x = new SignedCalls();
        for (int k = 0; k < 12; k++) {
            Due.is("told(0)", x.told(0), k);
            Due.is("account", x.account(k == 11 ? MOST : 7 * k, 1 << k, 1), k);
        }
        Due.is("account, the thirteenth", x.account(1, 1, 1), FULL);
        Due.is("account, BAD before FULL", x.account(-1, 1, 1), BAD);
        Due.is("account, BAD before FULL", x.account(1, 0, 1), BAD);
        Due.told(x, 12, 0, 0, 0, 0, 0);
        for (int k = 0; k < 12; k++) {
            Due.is("funds(" + k + ")", x.funds(k), k == 11 ? MOST : 7 * k);
            Due.is("next(" + k + ")", x.next(k), 0);
        }
        Due.is("funds(12)", x.funds(12), BAD);
        Due.is("next(12)", x.next(12), BAD);
    }

    private static void accountRefuses() {
        SignedCalls x = new SignedCalls();
        long[] funds = {-1, MOST + 1, Long.MIN_VALUE, Long.MAX_VALUE, 1L << 63 | 5, 1L << 40};
        for (long f : funds) {
            Due.is("account(" + f + ", 1, 1)", x.account(f, 1, 1), BAD);
        }
        Due.is("told(0)", x.told(0), 0);
        Due.is("account(0, 1, 1)", x.account(0, 1, 1), 0);
        Due.is("account(10^12, 1, 1)", x.account(MOST, 1, 1), 1);
        Due.is("told(0)", x.told(0), 2);
    }

    private static final int[][] BAD_LOCKS = {
        {0, 1}, {0, 0}, {-1, 1}, {65536, 1}, {65537, 1}, {Integer.MIN_VALUE, 1}, {Integer.MAX_VALUE, 1},
        {1, 0}, {1, -1}, {1, 2}, {32768, 2}, {3, 3}, {5, 3}, {65535, 17}, {65535, 0},
        {1, Integer.MIN_VALUE}, {65535, Integer.MAX_VALUE}, {-65536, 1},
    };
    private static final int[][] GOOD_LOCKS = {{1, 1}, {32768, 1}, {3, 2}, {5, 2}, {5, 1}, {65535, 16}, {65535, 1}, {65534, 15}};

    private static void locksAreTested() {
        SignedCalls x = new SignedCalls();
        for (int[] lock : BAD_LOCKS) {
            Due.is("account(5, " + lock[0] + ", " + lock[1] + ")", x.account(5, lock[0], lock[1]), BAD);
        }
        for (int k = 0; k < GOOD_LOCKS.length; k++) {
            Due.is("account(5, " + GOOD_LOCKS[k][0] + ", " + GOOD_LOCKS[k][1] + ")", x.account(5, GOOD_LOCKS[k][0], GOOD_LOCKS[k][1]), k);
        }
    }

    private static void lockChanges() {
        SignedCalls x = Due.withAccounts(100, 100);
        Due.is("lock(0, 12, 2)", x.lock(0, 12, 2), 1);
        Due.drafted(x, 0, 0, 1, 10);
        Due.actsOf(x, 1, 1);
        Due.signedBy(x, 0, 1, 2);
        Due.is("offer() with the old lock's key and one of the new", x.offer(), -14);
        Due.signedBy(x, 3);
        Due.is("offer() with both new keys", x.offer(), 0);
        Due.is("the other account's lock is as it was", Due.offered(x, 1, 0, 1, 10, 0, 1), 1);
        Due.is("lock(0, 16, 1)", x.lock(0, 16, 1), 1);
        Due.is("what waits is not looked at again", x.block(100), 2);
        Due.is("funds(0)", x.funds(0), 90);
        Due.is("next(0)", x.next(0), 1);
    }

    private static void lockRefuses() {
        SignedCalls x = Due.withAccounts(100, 100);
        int[] noAccounts = {-1, 2, 12, Integer.MIN_VALUE, Integer.MAX_VALUE};
        for (int account : noAccounts) {
            Due.is("lock(" + account + ", 1, 1)", x.lock(account, 1, 1), BAD);
        }
        for (int[] lock : BAD_LOCKS) {
            Due.is("lock(0, " + lock[0] + ", " + lock[1] + ")", x.lock(0, lock[0], lock[1]), BAD);
        }
        Due.is("a refused lock changes nothing", Due.offered(x, 0, 0, 1, 10, 1, 1), 0);
        for (int[] lock : GOOD_LOCKS) {
            Due.is("lock(0, " + lock[0] + ", " + lock[1] + ")", x.lock(0, lock[0], lock[1]), 1);
        }
    }

    private static void fundsAndNextRefuse() {
        SignedCalls x = Due.withAccounts(100, 0);
        int[] noAccounts = {-1, 2, 11, 12, Integer.MIN_VALUE, Integer.MAX_VALUE};
        for (int account : noAccounts) {
            Due.is("funds(" + account + ")", x.funds(account), BAD);
            Due.is("next(" + account + ")", x.next(account), BAD);
        }
        Due.is("funds(0)", x.funds(0), 100);
        Due.is("funds(1)", x.funds(1), 0);
        Due.is("next(1)", x.next(1), 0);
    }

    private static void signaturesAreNumbered() {
        SignedCalls x = new SignedCalls();
        for (int k = 0; k < 200; k++) {
            Due.is("sign", x.sign(k % 16, k % 2 == 0 ? Long.MIN_VALUE + k : k), k);
        }
        Due.is("told(1)", x.told(1), 200);
        Due.is("sign, one too many", x.sign(0, 0), FULL);
        Due.is("sign, BAD before FULL", x.sign(16, 0), BAD);
        Due.is("told(1)", x.told(1), 200);
        x.account(100, 1, 1);
        Due.drafted(x, 0, 0, 1, 10);
        Due.is("add(199)", x.add(199), 1);
        Due.is("add(200)", x.add(200), BAD);
    }

    private static void signRefuses() {
        SignedCalls x = new SignedCalls();
        int[] noKeys = {-1, 16, 17, Integer.MIN_VALUE, Integer.MAX_VALUE};
        for (int key : noKeys) {
            Due.is("sign(" + key + ", 1)", x.sign(key, 1), BAD);
        }
        Due.is("told(1)", x.told(1), 0);
        Due.is("sign(0, -1)", x.sign(0, -1), 0);
        Due.is("sign(15, max)", x.sign(15, Long.MAX_VALUE), 1);
        Due.is("sign(15, max), again", x.sign(15, Long.MAX_VALUE), 2);
        Due.is("told(1)", x.told(1), 3);
    }

    private static void toldRefuses() {
        SignedCalls x = Due.withAccounts(1000, 5);
        int[] bad = {-1, 6, 7, Integer.MIN_VALUE, Integer.MAX_VALUE};
        for (int what : bad) {
            Due.is("told(" + what + ")", x.told(what), BAD);
        }
        Due.offered(x, 0, 0, 1, 10, 1, 1);
        Due.offered(x, 0, 1, 1, 10, 1, 1);
        Due.offered(x, 0, 3, 1, 10, 1, 1);
        Due.told(x, 2, 3, 3, 3, 0, 0);
        x.block(100);
        Due.told(x, 2, 3, 1, 3, 2, 1);
        x.block(100);
        Due.told(x, 2, 3, 1, 3, 2, 2);
    }
}
