import java.math.BigInteger;

/** The document's part 'Terms', with promises 2, 3, 6 to 13, 15: every sentence that names a bound, at it and beside it. */
public final class TermsEdgesTest {
    private static final int BAD = SignedCalls.BAD, FULL = SignedCalls.FULL;
    private static final int MIN = Integer.MIN_VALUE, MAX = Integer.MAX_VALUE;
    private static final long MOST = 1_000_000_000_000L;

    public static void main(String[] args) {
        accountsAreTwelve();
        fundsAtFirst();
        keysAreBits();
        thresholdsGoUpToTheKeys();
        nextAndHeightAtFirst();
        ownersAreAccounts();
        numbers();
        prices();
        limits();
        ends();
        starts();
        sponsors();
        actsAreFour();
        actsAreOfAccounts();
        amounts();
        thePayer();
        theStake();
        theDigestBegins();
        theDigestWraps();
        theDigestIsSignedAtItsEdges();
        oneDigestOfTwoCalls();
        signaturesAreTwoHundred();
        keysOfSignatures();
        digestsOfSignatures();
        metAtTheThreshold();
        metByTheKeysOfTheLock();
        metByDifferentKeys();
        metForTheDigestItHas();
        metByThoseThatWereAdded();
        theWidestLocks();
        steps();
        Due.end();
    }

    private static void accountsAreTwelve() {
        Run r = new Run("ACCOUNTS 0 .. 11").due(0, "told", 0).due(BAD, "funds", 0).due(BAD, "next", 0);
        for (int k = 0; k < 12; k++) {
            r.due(k, "account", 100 + k, 1, 1).due(k + 1, "told", 0);
            r.due(100 + k, "funds", k).due(BAD, "funds", k + 1).due(0, "next", k).due(BAD, "next", k + 1);
        }
        r.due(FULL, "account", 7, 1, 1).due(12, "told", 0).due(BAD, "funds", 12).due(100, "funds", 0).due(111, "funds", 11);
        r.due(BAD, "funds", -1).due(BAD, "next", -1).due(BAD, "funds", MIN).due(BAD, "next", MAX);
    }

    private static void fundsAtFirst() {
        Run r = new Run("FUNDS 0 .. 10^12");
        r.due(0, "account", 0, 1, 1).due(1, "account", MOST, 1, 1).due(2, "account", MOST - 1, 1, 1);
        r.due(BAD, "account", -1, 1, 1).due(BAD, "account", MOST + 1, 1, 1);
        r.due(BAD, "account", Long.MIN_VALUE, 1, 1).due(BAD, "account", Long.MAX_VALUE, 1, 1);
        // As an int each of these would be 1.
        r.due(BAD, "account", (1L << 62) + 1, 1, 1).due(BAD, "account", (-1L << 32) + 1, 1, 1);
        r.due(0, "funds", 0).due(MOST, "funds", 1).due(MOST - 1, "funds", 2).due(3, "told", 0);
    }

    private static void keysAreBits() {
        Run r = new Run("KEYS (bit k is KEY k, 0 .. 15; one at least)").due(0, "account", 5, 1, 1);
        int[] bad = {0, -1, 65536, 65537, -65535, MIN, MAX};
        for (int keys : bad) {
            r.due(BAD, "account", 5, keys, 1).due(BAD, "lock", 0, keys, 1);
        }
        for (int key = 0; key < 16; key++) {
            r.due(1, "lock", 0, 1 << key, 1);
            r.due(1, "draft", 0, key, 0, 10).due(1, "act", 0, 0).signed((key + 1) % 16, (key + 15) % 16).due(-14, "offer");
            r.signed(key).due(key, "offer");
        }
        r.due(1, "account", 5, 65535, 1);
    }

    private static void thresholdsGoUpToTheKeys() {
        for (int keys = 1; keys <= 16; keys++) {
            int low = (1 << keys) - 1;
            int high = low << 16 - keys;
            Run r = new Run("a THRESHOLD (1 .. as many as these are)");
            r.due(0, "account", 5, low, 1).due(1, "account", 5, high, keys);
            r.due(BAD, "account", 5, low, 0).due(BAD, "account", 5, high, keys + 1).due(BAD, "account", 5, low, -1);
            r.due(1, "lock", 0, low, keys).due(1, "lock", 0, high, 1);
            r.due(BAD, "lock", 0, high, 0).due(BAD, "lock", 0, low, keys + 1);
            r.due(BAD, "lock", 0, low, MIN).due(BAD, "lock", 0, low, MAX).due(2, "told", 0);
        }
    }

    private static void nextAndHeightAtFirst() {
        Run r = new Run("a NEXT number (0 at first); HEIGHT is 0 at first").due(0, "told", 5).accounts(5, 5);
        r.due(0, "next", 0).due(0, "next", 1).due(0, "told", 5);
        r.drafted(0, 0, 0, 10, 0, 0).due(1, "until", 0).signed(0).due(0, "offer");
    }

    private static void ownersAreAccounts() {
        Run r = new Run("an OWNER (an ACCOUNT)").due(BAD, "draft", 0, 0, 1, 10);
        for (int k = 0; k < 12; k++) {
            r.due(k, "account", 5, 1, 1);
            r.due(1, "draft", k, 0, 1, 10).due(BAD, "draft", k + 1, 0, 1, 10).due(BAD, "draft", -1, 0, 1, 10);
            r.due(Run.digestOf(k, 0, 1, 10, 1000000, 0, -1), "digest");
        }
        r.due(BAD, "draft", MIN, 0, 1, 10).due(BAD, "draft", MAX, 0, 1, 10);
    }

    private static void numbers() {
        Run r = new Run("a NUMBER (0 .. 999)").accounts(5);
        r.due(BAD, "draft", 0, -1, 1, 10).due(BAD, "draft", 0, 1000, 1, 10).due(0, "digest");
        r.due(BAD, "draft", 0, MIN, 1, 10).due(BAD, "draft", 0, MAX, 1, 10).due(0, "digest");
        r.offered(0, 0, 999, 0, 10, 0, 0).offered(1, 0, 0, 0, 10, 0, 0);
        r.waits(0, 0, 0, 999, 0).waits(1, 1, 0, 0, 0).due(1, "block", 100).due(1, "next", 0).waits(0, 0, 0, 999, 0);
    }

    private static void prices() {
        Run r = new Run("a PRICE (0 .. 1000000)").accounts(MOST);
        r.due(BAD, "draft", 0, 0, -1, 10).due(BAD, "draft", 0, 0, 1000001, 10).due(0, "digest");
        r.due(BAD, "draft", 0, 0, MIN, 10).due(BAD, "draft", 0, 0, MAX, 10).due(0, "digest");
        r.offered(0, 0, 0, 0, 10, 0, 0).offered(1, 0, 1, 1000000, 10, 0, 0);
        r.waits(0, 0, 0, 0, 0).waits(1, 1, 0, 1, 1000000).due(2, "block", 100).due(10_000_000, "paid");
    }

    private static void limits() {
        Run r = new Run("a LIMIT of UNITS (10 .. 1000)").accounts(MOST);
        r.due(BAD, "draft", 0, 0, 1, 9).due(BAD, "draft", 0, 0, 1, 1001).due(BAD, "draft", 0, 0, 1, 0).due(0, "digest");
        r.due(BAD, "draft", 0, 0, 1, -10).due(BAD, "draft", 0, 0, 1, MIN).due(BAD, "draft", 0, 0, 1, MAX).due(0, "digest");
        r.offered(0, 0, 0, 1, 10, 0, 0).offered(1, 0, 1, 1, 1000, 0, 0);
        r.due(1, "block", 999 + 10).due(1, "block", 1000).due(20, "paid");
    }

    private static void ends() {
        Run r = new Run("an END (0 .. 1000000)").accounts(5).drafted(0, 0, 1, 10);
        r.due(Run.digestOf(0, 0, 1, 10, 1000000, 0, -1), "digest");
        r.due(1, "until", 0).due(Run.digestOf(0, 0, 1, 10, 0, 0, -1), "digest");
        r.due(BAD, "until", -1).due(BAD, "until", 1000001).due(BAD, "until", MIN).due(BAD, "until", MAX);
        r.due(Run.digestOf(0, 0, 1, 10, 0, 0, -1), "digest");
        r.due(1, "until", 1000000).due(Run.digestOf(0, 0, 1, 10, 1000000, 0, -1), "digest");
    }

    private static void starts() {
        Run r = new Run("a START (0 .. 1000000)").accounts(5).drafted(0, 0, 1, 10);
        r.due(1, "from", 1000000).due(Run.digestOf(0, 0, 1, 10, 1000000, 1000000, -1), "digest");
        r.due(BAD, "from", -1).due(BAD, "from", 1000001).due(BAD, "from", MIN).due(BAD, "from", MAX);
        r.due(Run.digestOf(0, 0, 1, 10, 1000000, 1000000, -1), "digest");
        r.due(1, "from", 0).due(Run.digestOf(0, 0, 1, 10, 1000000, 0, -1), "digest");
    }

    private static void sponsors() {
        Run r = new Run("a SPONSOR (an ACCOUNT, or -1 for none)").accounts(5).drafted(0, 0, 1, 10);
        for (int k = 0; k < 12; k++) {
            r.due(1, "sponsor", k).due(BAD, "sponsor", k + 1).due(BAD, "sponsor", -2);
            r.due(Run.digestOf(0, 0, 1, 10, 1000000, 0, k), "digest");
            r.due(k < 11 ? k + 1 : FULL, "account", 5, 1, 1);
        }
        r.due(BAD, "sponsor", MIN).due(BAD, "sponsor", MAX);
        r.due(1, "sponsor", -1).due(Run.digestOf(0, 0, 1, 10, 1000000, 0, -1), "digest");
    }

    private static void actsAreFour() {
        Run r = new Run("ACTS, 4 at most").accounts(5).drafted(0, 0, 0, 40).due(-11, "offer");
        r.due(1, "act", 0, 1).due(2, "act", 0, 2).due(3, "act", 0, 3).due(4, "act", 0, 4);
        r.due(FULL, "act", 0, 5).due(FULL, "act", 0, 0);
        r.due(Run.digestOf(0, 0, 0, 40, 1000000, 0, -1, 0, 1, 0, 2, 0, 3, 0, 4), "digest");
        r.signed(0).due(0, "offer").due(1, "block", 40).event(0, 0, 0, 40);
        r.drafted(0, 1, 0, 10, 0, 1, 0, 1, 0, 1, 0, 1).due(FULL, "act", 0, 1);
    }

    private static void actsAreOfAccounts() {
        Run r = new Run("each an ACCOUNT").due(BAD, "act", 0, 1);
        for (int k = 0; k < 12; k++) {
            r.due(k, "account", 5, 1, 1).due(1, "draft", 0, 0, 1, 10);
            r.due(BAD, "act", k + 1, 1).due(BAD, "act", -1, 1).due(1, "act", k, 1);
            r.due(Run.digestOf(0, 0, 1, 10, 1000000, 0, -1, k, 1), "digest");
        }
        r.due(BAD, "act", MIN, 1).due(BAD, "act", MAX, 1).due(2, "act", 11, 1);
    }

    private static void amounts() {
        Run r = new Run("an AMOUNT (0 .. 10^12)").accounts(MOST, 0).drafted(0, 0, 0, 20);
        r.due(BAD, "act", 1, -1).due(BAD, "act", 1, MOST + 1);
        r.due(BAD, "act", 1, Long.MIN_VALUE).due(BAD, "act", 1, Long.MAX_VALUE);
        // As an int this would be 1.
        r.due(BAD, "act", 1, (1L << 60) + 1);
        r.due(1, "act", 1, MOST).due(2, "act", 1, 0).signed(0).due(0, "offer").due(1, "block", 20);
        r.due(0, "funds", 0).due(MOST, "funds", 1);
    }

    private static void thePayer() {
        Run r = new Run("THE PAYER is the SPONSOR, without one the OWNER").accounts(100, 100, 100);
        r.drafted(2, 0, 1, 10, 2, 0).due(1, "sponsor", 0).signed(0, 2).due(0, "offer");
        r.drafted(1, 0, 1, 10, 1, 0).due(1, "sponsor", 0).due(1, "sponsor", -1).signed(1).due(1, "offer");
        r.due(2, "block", 100).due(90, "funds", 0).due(90, "funds", 1).due(100, "funds", 2);
    }

    private static void theStake() {
        Run r = new Run("THE STAKE is PRICE times LIMIT").accounts(999_999_999L, 1_000_000_000L, 0, 1);
        r.offered(-16, 0, 0, 1000000, 1000, 0, 0).offered(0, 1, 0, 1000000, 1000, 0, 0);
        r.offered(1, 2, 0, 0, 1000, 0, 0).offered(-16, 3, 0, 1, 10, 0, 0);
        r.due(2, "block", 10000).due(990_000_000L, "funds", 1).due(10_000_000L, "paid");
    }

    private static void theDigestBegins() {
        Run r = new Run("h is 17; for OWNER, NUMBER, .. h becomes 31 h and that").due(0, "digest").accounts(5, 5);
        r.due(1, "draft", 0, 0, 0, 10).due(1, "until", 0).due(1, "sponsor", 0);
        // 17 times 31^7, and 10 times 31^3.
        r.due(17L * 27512614111L + 10 * 29791, "digest");
        r.due(1, "draft", 1, 2, 3, 10).due(1, "until", 5).due(1, "from", 6).due(1, "sponsor", 1).due(1, "act", 1, 7).due(2, "act", 0, 8);
        r.due(Run.digestOf(1, 2, 3, 10, 5, 6, 1, 1, 7, 0, 8), "digest");
    }

    private static final long[] JUST_BELOW_THE_WRAP = {21408, 458767034327L, 871};
    private static final long[] MINUS_ONE = {10155, 359991321713L, 770};

    private static Run wrapping(Run r, long[] p, long more) {
        return r.drafted(0, 0, (int) p[0], 10, 1, 0, 1, p[1], 1, p[2] + more);
    }

    private static void theDigestWraps() {
        Run r = new Run("(64 bits, wrapping)").accounts(5, 5);
        wrapping(r, JUST_BELOW_THE_WRAP, 0).due(Long.MAX_VALUE, "digest");
        wrapping(r, JUST_BELOW_THE_WRAP, 1).due(Long.MIN_VALUE, "digest");
        wrapping(r, MINUS_ONE, 0).due(-1, "digest");
        wrapping(r, MINUS_ONE, 1).due(0, "digest");
        r.drafted(1, 999, 1000000, 1000, 1, MOST, 1, MOST, 1, MOST, 1, MOST).due(1, "from", 1000000).due(1, "sponsor", 1);
        long[] all = {1, 999, 1000000, 1000, 1000000, 1000000, 1, 1, MOST, 1, MOST, 1, MOST, 1, MOST};
        BigInteger h = BigInteger.valueOf(17);
        for (long n : all) {
            h = h.multiply(BigInteger.valueOf(31)).add(BigInteger.valueOf(n));
        }
        r.due(h.longValue(), "digest");
    }

    private static void theDigestIsSignedAtItsEdges() {
        Run r = new Run("for the DIGEST that the CALL has, beyond the wrap").accounts(MOST, 5);
        wrapping(r, JUST_BELOW_THE_WRAP, 1).due(0, "sign", 0, Long.MAX_VALUE).due(1, "add", 0).due(-14, "offer");
        r.due(1, "sign", 0, Long.MIN_VALUE).due(2, "add", 1).due(0, "offer");
        wrapping(r, MINUS_ONE, 1).due(-14, "offer").due(2, "sign", 0, 0).due(1, "add", 2).due(-17, "offer");
    }

    /** A price of one more and a limit of 31 less give the same digest: a signature is for the digest alone. */
    private static void oneDigestOfTwoCalls() {
        Run r = new Run("each of a KEY and a DIGEST").accounts(10000, 5);
        long digest = Run.digestOf(0, 0, 5, 72, 1000000, 0, -1, 1, 3);
        r.drafted(0, 0, 5, 72, 1, 3).due(digest, "digest").due(0, "sign", 0, digest).due(1, "add", 0).due(0, "offer");
        r.drafted(0, 0, 6, 41, 1, 3).due(digest, "digest").due(-14, "offer").due(1, "add", 0).due(1, "offer");
        r.event(0, 0, 3, 0).waits(0, 1, 0, 0, 6);
    }

    private static void signaturesAreTwoHundred() {
        Run r = new Run("SIGNATURES 0 .. 199, as they come").accounts(1000).drafted(0, 0, 1, 10, 0, 0).due(BAD, "add", 0);
        long digest = r.call("digest");
        for (int k = 0; k < 199; k++) {
            r.due(k, "sign", k % 16, k);
        }
        r.due(199, "told", 1).due(BAD, "add", 199).due(199, "sign", 0, digest).due(200, "told", 1);
        r.due(FULL, "sign", 0, digest).due(FULL, "sign", 15, 0).due(200, "told", 1).due(BAD, "add", 200);
        r.due(1, "add", 0).due(-14, "offer").due(2, "add", 199).due(0, "offer");
    }

    private static void keysOfSignatures() {
        Run r = new Run("each of a KEY").due(BAD, "sign", -1, 0).due(BAD, "sign", 16, 0).due(0, "told", 1);
        r.due(BAD, "sign", MIN, 0).due(BAD, "sign", MAX, 0).due(BAD, "sign", 32, 0).due(0, "told", 1);
        r.due(0, "sign", 0, 0).due(1, "sign", 15, 0).due(2, "told", 1);
    }

    private static void digestsOfSignatures() {
        Run r = new Run("A SIGNATURE of a KEY for a DIGEST, any");
        long[] digests = {0, 1, -1, Long.MIN_VALUE, Long.MAX_VALUE};
        for (int k = 0; k < digests.length; k++) {
            r.due(k, "sign", k, digests[k]);
        }
        r.due(5, "sign", 0, 0).due(6, "told", 1);
    }

    private static void metAtTheThreshold() {
        for (int threshold = 1; threshold <= 12; threshold++) {
            Run r = new Run("THRESHOLD KEYS at least").due(0, "account", 5, 4095 << 2, threshold).drafted(0, 0, 0, 10, 0, 0);
            for (int k = 0; k < threshold; k++) {
                r.due(-14, "offer").signed(k + 2);
            }
            r.due(0, "offer");
            if (threshold < 12) {
                r.drafted(0, 1, 0, 10, 0, 0);
                for (int k = 0; k <= threshold; k++) {
                    r.signed(13 - k);
                }
                r.due(1, "offer");
            }
        }
    }

    private static void metByTheKeysOfTheLock() {
        Run r = new Run("of those of the LOCK").due(0, "account", 5, 0b1000_0000_0000_0110, 2).drafted(0, 0, 0, 10, 0, 0);
        r.signed(0, 3, 14, 4, 13).due(-14, "offer").signed(15).due(-14, "offer").signed(1).due(0, "offer");
    }

    private static void metByDifferentKeys() {
        Run r = new Run("KEYS .. of which one of them is").due(0, "account", 5, 3, 2).drafted(0, 0, 0, 10, 0, 0);
        r.signed(0, 0).due(3, "add", 0).due(-14, "offer").signed(1).due(0, "offer");
    }

    private static void metForTheDigestItHas() {
        Run r = new Run("for the DIGEST that the CALL has").accounts(5).drafted(0, 0, 0, 10, 0, 0);
        long digest = r.call("digest");
        r.due(0, "sign", 0, digest - 1).due(1, "sign", 0, digest + 1).due(2, "sign", 0, digest ^ Long.MIN_VALUE).due(3, "sign", 0, -digest);
        r.due(1, "add", 0).due(2, "add", 1).due(3, "add", 2).due(4, "add", 3).due(-14, "offer");
        r.due(4, "sign", 0, digest).due(5, "add", 4).due(1, "until", 999999).due(-14, "offer");
        r.due(1, "until", 1000000).due(1, "from", 1).due(-14, "offer").due(1, "from", 0).due(0, "offer");
        r.due(2, "act", 0, 0).due(-14, "offer");
    }

    private static void metByThoseThatWereAdded() {
        Run r = new Run("SIGNATURES .. those of a CALL").accounts(5).drafted(0, 0, 0, 10, 0, 0);
        long digest = r.call("digest");
        r.due(-14, "offer").due(0, "sign", 0, digest).due(-14, "offer").due(1, "add", 0).due(0, "offer");
    }

    /** No call has more than 12 signatures, so a threshold of 13 is never met. */
    private static void theWidestLocks() {
        Run r = new Run("(1 .. as many as these are); SIGNATURES (12 at most)").due(0, "account", 5, 65535, 12).drafted(0, 0, 0, 10, 0, 0);
        r.signed(15, 14, 13, 12, 11, 10, 9, 8, 7, 6, 5).due(-14, "offer").signed(4).due(FULL, "add", 0);
        r.due(1, "lock", 0, 65535, 13).due(-14, "offer").due(1, "lock", 0, 65535, 16).due(-14, "offer");
        r.due(1, "lock", 0, 65535, 12).due(0, "offer");
    }

    private static void steps() {
        Run r = new Run("STEP becomes n (1 .. 1000): what it was").due(BAD, "step", 0).due(BAD, "step", 1001);
        r.due(BAD, "step", -1).due(BAD, "step", MIN).due(BAD, "step", MAX);
        r.due(1, "step", 1000).due(1000, "step", 1).due(1, "step", 1).due(1, "step", 2).due(BAD, "step", 0).due(2, "step", 1);
    }
}
