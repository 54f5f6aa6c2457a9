/** Promises 7 to 13 and 15: draft, until, from, sponsor, act, add, digest, step. */
public final class DraftTest {
    private static final int BAD = SignedCalls.BAD, NONE = SignedCalls.NONE, FULL = SignedCalls.FULL;
    private static final long MOST = 1_000_000_000_000L;
    private static final int MIN = Integer.MIN_VALUE, MAX = Integer.MAX_VALUE;

    public static void main(String[] args) {
        draftTakesItsEdges();
        draftRefuses();
        aNewDraftIsBare();
        untilAndFrom();
        sponsors();
        acts();
        signaturesAreAdded();
        withoutADraft();
        digestsAreOfAllFields();
        digestWraps();
        step();
        Due.end();
    }

    /** The document's rule over a row of numbers. */
    private static long rule(long... numbers) {
        long h = 17;
        for (long n : numbers) {
            h = h * 31 + n;
        }
        return h;
    }

    private static void digest(SignedCalls x, long... numbers) {
        Due.is("digest()", x.digest(), rule(numbers));
    }

    private static void draftTakesItsEdges() {
        SignedCalls x = Due.withAccounts(1, 2, 3);
        Due.drafted(x, 0, 0, 0, 10);
        digest(x, 0, 0, 0, 10, 1000000, 0, -1);
        Due.drafted(x, 2, 999, 1000000, 1000);
        digest(x, 2, 999, 1000000, 1000, 1000000, 0, -1);
    }

    private static void draftRefuses() {
        SignedCalls x = Due.withAccounts(1, 2);
        int[][] bad = {
            {-1, 0, 1, 10}, {2, 0, 1, 10}, {MIN, 0, 1, 10}, {MAX, 0, 1, 10},
            {0, -1, 1, 10}, {0, 1000, 1, 10}, {0, MIN, 1, 10}, {0, MAX, 1, 10},
            {0, 0, -1, 10}, {0, 0, 1000001, 10}, {0, 0, MIN, 10}, {0, 0, MAX, 10},
            {0, 0, 1, 9}, {0, 0, 1, 0}, {0, 0, 1, 1001}, {0, 0, 1, MIN}, {0, 0, 1, MAX},
        };
        for (int[] d : bad) {
            Due.is("draft(" + d[0] + ", " + d[1] + ", " + d[2] + ", " + d[3] + ")", x.draft(d[0], d[1], d[2], d[3]), BAD);
        }
        Due.is("there is no draft yet", x.offer(), NONE);
        Due.drafted(x, 1, 5, 6, 70);
        Due.actsOf(x, 0, 8);
        for (int[] d : bad) {
            Due.is("draft, BAD", x.draft(d[0], d[1], d[2], d[3]), BAD);
        }
        digest(x, 1, 5, 6, 70, 1000000, 0, -1, 0, 8);
    }

    private static void aNewDraftIsBare() {
        SignedCalls x = Due.withAccounts(100, 100);
        Due.drafted(x, 0, 0, 1, 10);
        x.until(5);
        x.from(4);
        x.sponsor(1);
        Due.actsOf(x, 1, 2, 1, 3);
        Due.signedBy(x, 0, 1);
        digest(x, 0, 0, 1, 10, 5, 4, 1, 1, 2, 1, 3);
        Due.drafted(x, 0, 0, 1, 10);
        digest(x, 0, 0, 1, 10, 1000000, 0, -1);
        Due.is("no acts", x.offer(), -11);
        Due.is("act", x.act(0, 0), 1);
        Due.is("no signatures", x.offer(), -14);
        Due.is("add(0)", x.add(0), 1);
    }

    private static void untilAndFrom() {
        SignedCalls x = Due.withAccounts(100);
        Due.drafted(x, 0, 0, 1, 10);
        int[] good = {0, 1, 999999, 1000000};
        int[] bad = {-1, 1000001, MIN, MAX};
        for (int h : good) {
            Due.is("until(" + h + ")", x.until(h), 1);
            digest(x, 0, 0, 1, 10, h, 0, -1);
        }
        for (int h : bad) {
            Due.is("until(" + h + ")", x.until(h), BAD);
        }
        Due.is("until(7)", x.until(7), 1);
        for (int h : good) {
            Due.is("from(" + h + ")", x.from(h), 1);
            digest(x, 0, 0, 1, 10, 7, h, -1);
        }
        for (int h : bad) {
            Due.is("from(" + h + ")", x.from(h), BAD);
        }
        digest(x, 0, 0, 1, 10, 7, 1000000, -1);
    }

    private static void sponsors() {
        SignedCalls x = Due.withAccounts(100, 100, 100);
        Due.drafted(x, 1, 0, 1, 10);
        int[] good = {0, 2, 1, -1, 2};
        for (int account : good) {
            Due.is("sponsor(" + account + ")", x.sponsor(account), 1);
            digest(x, 1, 0, 1, 10, 1000000, 0, account);
        }
        int[] bad = {-2, 3, 12, MIN, MAX};
        for (int account : bad) {
            Due.is("sponsor(" + account + ")", x.sponsor(account), BAD);
        }
        digest(x, 1, 0, 1, 10, 1000000, 0, 2);
    }

    private static void acts() {
        SignedCalls x = Due.withAccounts(100, 100);
        Due.drafted(x, 0, 0, 1, 10);
        int[] noAccounts = {-1, 2, 12, MIN, MAX};
        for (int account : noAccounts) {
            Due.is("act(" + account + ", 1)", x.act(account, 1), BAD);
        }
        long[] noAmounts = {-1, MOST + 1, Long.MIN_VALUE, Long.MAX_VALUE};
        for (long amount : noAmounts) {
            Due.is("act(0, " + amount + ")", x.act(0, amount), BAD);
        }
        Due.is("act(0, 0)", x.act(0, 0), 1);
        Due.is("act(1, 10^12)", x.act(1, MOST), 2);
        Due.is("act(1, 3)", x.act(1, 3), 3);
        Due.is("act(1, 3)", x.act(1, 3), 4);
        Due.is("act, a fifth", x.act(1, 3), FULL);
        Due.is("act, BAD before FULL", x.act(2, 3), BAD);
        Due.is("act, BAD before FULL", x.act(1, -3), BAD);
        digest(x, 0, 0, 1, 10, 1000000, 0, -1, 0, 0, 1, MOST, 1, 3, 1, 3);
    }

    private static void signaturesAreAdded() {
        SignedCalls x = Due.withAccounts(100);
        Due.is("sign", x.sign(0, 5), 0);
        Due.is("sign", x.sign(0, 5), 1);
        Due.drafted(x, 0, 0, 1, 10);
        int[] none = {-1, 2, 200, MIN, MAX};
        for (int signature : none) {
            Due.is("add(" + signature + ")", x.add(signature), BAD);
        }
        for (int k = 1; k <= 12; k++) {
            Due.is("add, the same ones again", x.add(k % 2), k);
        }
        Due.is("add, a thirteenth", x.add(0), FULL);
        Due.is("add, BAD before FULL", x.add(2), BAD);
        digest(x, 0, 0, 1, 10, 1000000, 0, -1);
        Due.drafted(x, 0, 0, 1, 10);
        Due.is("add to a new draft", x.add(1), 1);
    }

    private static void withoutADraft() {
        SignedCalls x = Due.withAccounts(100);
        x.sign(0, 5);
        Due.is("until(1)", x.until(1), NONE);
        Due.is("until(-1), BAD before NONE", x.until(-1), BAD);
        Due.is("from(1)", x.from(1), NONE);
        Due.is("from(1000001), BAD before NONE", x.from(1000001), BAD);
        Due.is("sponsor(0)", x.sponsor(0), NONE);
        Due.is("sponsor(-1)", x.sponsor(-1), NONE);
        Due.is("sponsor(1), BAD before NONE", x.sponsor(1), BAD);
        Due.is("act(0, 1)", x.act(0, 1), NONE);
        Due.is("act(1, 1), BAD before NONE", x.act(1, 1), BAD);
        Due.is("act(0, -1), BAD before NONE", x.act(0, -1), BAD);
        Due.is("add(0)", x.add(0), NONE);
        Due.is("add(1), BAD before NONE", x.add(1), BAD);
        Due.is("offer()", x.offer(), NONE);
        Due.is("digest()", x.digest(), 0);
        Due.drafted(x, 0, 0, 1, 10);
        digest(x, 0, 0, 1, 10, 1000000, 0, -1);
        Due.is("no acts", x.offer(), -11);
    }

    private static void digestsAreOfAllFields() {
        SignedCalls x = Due.withAccounts(100, 100, 100);
        Due.drafted(x, 2, 3, 5, 17);
        x.until(19);
        x.from(23);
        x.sponsor(1);
        digest(x, 2, 3, 5, 17, 19, 23, 1);
        x.act(2, 29);
        digest(x, 2, 3, 5, 17, 19, 23, 1, 2, 29);
        x.act(0, 31);
        digest(x, 2, 3, 5, 17, 19, 23, 1, 2, 29, 0, 31);
        x.act(1, 37);
        digest(x, 2, 3, 5, 17, 19, 23, 1, 2, 29, 0, 31, 1, 37);
        x.sign(0, 1);
        x.add(0);
        x.block(5);
        x.lock(2, 8, 1);
        digest(x, 2, 3, 5, 17, 19, 23, 1, 2, 29, 0, 31, 1, 37);
    }

    private static void digestWraps() {
        SignedCalls x = Due.withAccounts(1000, 50, 0);
        Due.drafted(x, 0, 0, 3, 20);
        Due.actsOf(x, 1, 100, 2, 5, 0, 7);
        Due.is("digest()", x.digest(), -8320947924775265334L);
        Due.drafted(x, 0, 0, 2, 20);
        Due.actsOf(x, 1, 100);
        Due.is("digest()", x.digest(), 450399445320959L);
    }

    private static void step() {
        SignedCalls x = new SignedCalls();
        Due.is("step(1000)", x.step(1000), 1);
        int[] bad = {0, -1, 1001, MIN, MAX};
        for (int n : bad) {
            Due.is("step(" + n + ")", x.step(n), BAD);
        }
        Due.is("step(1)", x.step(1), 1000);
        Due.is("step(7)", x.step(7), 1);
        Due.is("step(7)", x.step(7), 7);
    }
}
