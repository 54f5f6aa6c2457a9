import java.util.Arrays;

/** What the tests share: answers against those that are due, and calls made ready in one line. */
final class Due {
    private static int wrong = 0;
    private static int looked = 0;

    private Due() {
    }

    static void is(String call, long got, long want) {
        looked++;
        if (got != want) {
            wrong++;
            System.out.println(call + " answered " + got + ", due is " + want);
        }
    }

    static void holds(String what, boolean true_) {
        is(what, true_ ? 1 : 0, 1);
    }

    static void end() {
        System.out.println(looked + " answers looked at, " + wrong + " not as due");
        if (wrong != 0 || looked == 0) {
            System.exit(1);
        }
    }

    /** One account after another, each with one key: account k has key k. */
    static SignedCalls withAccounts(long... funds) {
        SignedCalls x = new SignedCalls();
        for (int k = 0; k < funds.length; k++) {
            is("account", x.account(funds[k], 1 << k, 1), k);
        }
        return x;
    }

    static void drafted(SignedCalls x, int owner, int number, int price, int limit) {
        is("draft(" + owner + ", " + number + ", " + price + ", " + limit + ")", x.draft(owner, number, price, limit), 1);
    }

    static void actsOf(SignedCalls x, long... accountsAndAmounts) {
        for (int k = 0; k < accountsAndAmounts.length; k += 2) {
            is("act", x.act((int) accountsAndAmounts[k], accountsAndAmounts[k + 1]), k / 2 + 1);
        }
    }

    /** Signatures of these keys for the draft as it is now. */
    static void signedBy(SignedCalls x, int... keys) {
        long digest = x.digest();
        for (int key : keys) {
            int signature = x.sign(key, digest);
            holds("sign with " + Arrays.toString(keys), signature >= 0);
            holds("add " + signature, x.add(signature) >= 1);
        }
    }

    /** A call with one act, signed by its owner's key where account k has key k: what the offer answers. */
    static int offered(SignedCalls x, int owner, int number, int price, int limit, int to, long amount) {
        drafted(x, owner, number, price, limit);
        actsOf(x, to, amount);
        signedBy(x, owner);
        return x.offer();
    }

    static void event(SignedCalls x, int i, int ticket, int why, int units) {
        is("event(" + i + ", 0)", x.event(i, 0), ticket);
        is("event(" + i + ", 1)", x.event(i, 1), why);
        is("event(" + i + ", 2)", x.event(i, 2), units);
    }

    static void waits(SignedCalls x, int i, int ticket, int owner, int number, int price) {
        is("waiting(" + i + ", 0)", x.waiting(i, 0), ticket);
        is("waiting(" + i + ", 1)", x.waiting(i, 1), owner);
        is("waiting(" + i + ", 2)", x.waiting(i, 2), number);
        is("waiting(" + i + ", 3)", x.waiting(i, 3), price);
    }

    static void told(SignedCalls x, int accounts, int signatures, int waiting, int tickets, int events, int height) {
        int[] want = {accounts, signatures, waiting, tickets, events, height};
        for (int what = 0; what < want.length; what++) {
            is("told(" + what + ")", x.told(what), want[what]);
        }
    }
}
