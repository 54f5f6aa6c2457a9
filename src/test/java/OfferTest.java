/** Promises 14 and 17: offer with what refuses it, and waiting. */
public final class OfferTest {
    private static final int BAD = SignedCalls.BAD, NONE = SignedCalls.NONE;
    private static final int MIN = Integer.MIN_VALUE, MAX = Integer.MAX_VALUE;

    public static void main(String[] args) {
        aCallWaits();
        theDraftStays();
        whatWaitsIsApartFromTheDraft();
        theFirstReasonIsTold();
        refusedByItsEnd();
        refusedByItsNumber();
        locksAndKeys();
        signaturesAreForOneDigest();
        theSponsorsLock();
        theSponsorThatIsTheOwner();
        refusedByTheStake();
        theSponsorPaysTheStake();
        dearerOnesReplace();
        stepIsAskedAtTheOffer();
        aFullRow();
        aFullRowReplaces();
        theFirstIsTheLeast();
        waitingRefuses();
        Due.end();
    }

    private static void aCallWaits() {
        SignedCalls x = Due.withAccounts(1000, 1000);
        Due.is("offer", Due.offered(x, 1, 4, 9, 10, 0, 5), 0);
        Due.is("offer", Due.offered(x, 0, 7, 3, 10, 0, 5), 1);
        Due.is("offer", Due.offered(x, 1, 2, 0, 10, 0, 5), 2);
        Due.waits(x, 0, 0, 1, 4, 9);
        Due.waits(x, 1, 1, 0, 7, 3);
        Due.waits(x, 2, 2, 1, 2, 0);
        Due.told(x, 2, 3, 3, 3, 0, 0);
        Due.is("funds are not touched yet", x.funds(1), 1000);
    }

    private static void theDraftStays() {
        SignedCalls x = Due.withAccounts(1000);
        Due.is("offer", Due.offered(x, 0, 0, 9, 10, 0, 5), 0);
        long digest = x.digest();
        Due.holds("there is a digest", digest != 0);
        Due.is("offer() again", x.offer(), -17);
        Due.is("act more", x.act(0, 1), 2);
        Due.is("the signature is for another digest", x.offer(), -14);
        Due.is("told(3)", x.told(3), 1);
    }

    private static void whatWaitsIsApartFromTheDraft() {
        SignedCalls x = Due.withAccounts(1000, 0, 0);
        Due.is("offer", Due.offered(x, 0, 0, 9, 10, 1, 5), 0);
        x.until(0);
        x.from(1000);
        x.sponsor(1);
        x.act(2, 50);
        Due.waits(x, 0, 0, 0, 0, 9);
        Due.drafted(x, 1, 3, 2, 30);
        Due.waits(x, 0, 0, 0, 0, 9);
        Due.is("block(10)", x.block(10), 1);
        Due.is("funds(0)", x.funds(0), 1000 - 90 - 5);
        Due.is("funds(1)", x.funds(1), 5);
        Due.is("funds(2)", x.funds(2), 0);
    }

    /** A call that all eight would refuse, mended one by one. */
    private static void theFirstReasonIsTold() {
        SignedCalls x = Due.withAccounts(100, 0, 100000);
        Due.is("offer", Due.offered(x, 0, 0, 1, 10, 0, 0), 0);
        Due.is("block(100)", x.block(100), 1);
        Due.is("offer", Due.offered(x, 0, 1, 5, 10, 0, 0), 1);
        Due.drafted(x, 0, 0, 5, 10);
        x.until(0);
        x.sponsor(1);
        Due.is("no act", x.offer(), -11);
        x.act(1, 1);
        Due.is("end", x.offer(), -12);
        x.until(1);
        Due.is("number", x.offer(), -13);
        Due.drafted(x, 0, 1, 5, 10);
        x.sponsor(1);
        x.act(1, 1);
        Due.is("owner's lock", x.offer(), -14);
        Due.signedBy(x, 0);
        Due.is("sponsor's lock", x.offer(), -15);
        Due.signedBy(x, 1);
        Due.is("stake", x.offer(), -16);
        Due.drafted(x, 0, 1, 5, 10);
        x.sponsor(2);
        x.act(1, 1);
        Due.signedBy(x, 0, 2);
        Due.is("step", x.offer(), -17);
        Due.drafted(x, 0, 1, 6, 10);
        x.sponsor(2);
        x.act(1, 1);
        Due.signedBy(x, 0, 2);
        Due.is("not refused", x.offer(), 2);
        Due.told(x, 3, 8, 1, 3, 2, 1);
    }

    private static void refusedByItsEnd() {
        SignedCalls x = Due.withAccounts(1000);
        x.block(0);
        x.block(0);
        Due.drafted(x, 0, 0, 1, 10);
        Due.actsOf(x, 0, 0);
        x.until(1);
        Due.signedBy(x, 0);
        Due.is("END 1 at HEIGHT 2", x.offer(), -12);
        x.until(2);
        Due.is("END 2, not signed", x.offer(), -14);
        Due.signedBy(x, 0);
        Due.is("END 2 at HEIGHT 2", x.offer(), 0);
    }

    private static void refusedByItsNumber() {
        SignedCalls x = Due.withAccounts(1000);
        Due.is("offer 0", Due.offered(x, 0, 0, 1, 10, 0, 0), 0);
        Due.is("offer 1", Due.offered(x, 0, 1, 1, 10, 0, 0), 1);
        Due.is("block", x.block(100), 2);
        Due.is("offer 0", Due.offered(x, 0, 0, 9, 10, 0, 0), -13);
        Due.is("offer 1", Due.offered(x, 0, 1, 9, 10, 0, 0), -13);
        Due.is("offer 2", Due.offered(x, 0, 2, 1, 10, 0, 0), 2);
        Due.is("offer 999", Due.offered(x, 0, 999, 1, 10, 0, 0), 3);
    }

    private static void locksAndKeys() {
        SignedCalls x = new SignedCalls();
        x.account(1000, 1 << 15 | 1 << 8 | 1, 2);
        Due.drafted(x, 0, 0, 1, 10);
        Due.actsOf(x, 0, 0);
        Due.signedBy(x, 8, 8);
        Due.is("one key twice", x.offer(), -14);
        Due.signedBy(x, 1, 2, 7, 14);
        Due.is("keys that are not of the lock", x.offer(), -14);
        x.add(0);
        Due.is("one signature twice", x.offer(), -14);
        Due.signedBy(x, 15);
        Due.is("two keys", x.offer(), 0);
        Due.drafted(x, 0, 1, 1, 10);
        Due.actsOf(x, 0, 0);
        Due.signedBy(x, 15, 8, 0);
        Due.is("more than the threshold", x.offer(), 1);
        x.lock(0, 65535, 12);
        Due.drafted(x, 0, 2, 1, 10);
        Due.actsOf(x, 0, 0);
        Due.signedBy(x, 0, 1, 2, 3, 4, 5, 6, 7, 8, 9, 10);
        Due.is("eleven of twelve", x.offer(), -14);
        Due.signedBy(x, 15);
        Due.is("twelve of twelve", x.offer(), 2);
    }

    private static void signaturesAreForOneDigest() {
        SignedCalls x = Due.withAccounts(1000);
        Due.drafted(x, 0, 0, 1, 10);
        Due.actsOf(x, 0, 0);
        long digest = x.digest();
        x.sign(0, digest + 1);
        x.sign(0, digest - 1);
        x.sign(0, digest ^ 1L << 40);
        x.sign(1, digest);
        for (int k = 0; k < 4; k++) {
            Due.is("add", x.add(k), k + 1);
            Due.is("a wrong digest or key", x.offer(), -14);
        }
        Due.is("sign", x.sign(0, digest), 4);
        Due.is("made, not added", x.offer(), -14);
        Due.is("add", x.add(4), 5);
        x.from(1);
        Due.is("signed before a change", x.offer(), -14);
        x.from(0);
        Due.is("changed back", x.offer(), 0);
    }

    private static void theSponsorsLock() {
        SignedCalls x = Due.withAccounts(1000, 1000);
        x.lock(1, 6, 2);
        Due.drafted(x, 0, 0, 1, 10);
        x.sponsor(1);
        Due.actsOf(x, 0, 0);
        Due.signedBy(x, 1, 2);
        Due.is("the owner has not signed", x.offer(), -14);
        Due.drafted(x, 0, 0, 1, 10);
        x.sponsor(1);
        Due.actsOf(x, 0, 0);
        Due.signedBy(x, 0, 1);
        Due.is("the sponsor's threshold", x.offer(), -15);
        Due.signedBy(x, 2);
        Due.is("both", x.offer(), 0);
        x.lock(1, 1, 1);
        Due.drafted(x, 0, 1, 1, 10);
        x.sponsor(1);
        Due.actsOf(x, 0, 0);
        Due.signedBy(x, 0);
        Due.is("one key may serve both", x.offer(), 1);
    }

    private static void theSponsorThatIsTheOwner() {
        SignedCalls x = Due.withAccounts(100, 1000);
        Due.drafted(x, 0, 0, 5, 20);
        x.sponsor(0);
        Due.actsOf(x, 1, 10);
        Due.signedBy(x, 0);
        Due.is("offer", x.offer(), 0);
        Due.is("the stake leaves nothing to give", x.block(100), 0);
        Due.event(x, 0, 0, 1, 10);
        Due.is("funds(0)", x.funds(0), 50);
    }

    private static void refusedByTheStake() {
        SignedCalls x = Due.withAccounts(999, 1000, 1_000_000_000L);
        Due.is("999 for 1000", Due.offered(x, 0, 0, 50, 20, 0, 0), -16);
        Due.is("1000 for 1000", Due.offered(x, 1, 0, 50, 20, 0, 0), 0);
        Due.is("the amounts are not asked for", Due.offered(x, 1, 1, 50, 20, 0, 1_000_000), 1);
        Due.is("the greatest stake", Due.offered(x, 2, 0, 1000000, 1000, 0, 0), 2);
        Due.is("the greatest stake, too much", Due.offered(x, 1, 2, 1000000, 1000, 0, 0), -16);
        Due.is("price 0", Due.offered(x, 0, 0, 0, 1000, 0, 0), 3);
    }

    private static void theSponsorPaysTheStake() {
        SignedCalls x = Due.withAccounts(0, 1000, 1000);
        Due.drafted(x, 0, 0, 50, 20);
        x.sponsor(1);
        Due.actsOf(x, 0, 0);
        Due.signedBy(x, 0, 1);
        Due.is("the sponsor has it", x.offer(), 0);
        Due.drafted(x, 1, 0, 50, 20);
        x.sponsor(0);
        Due.actsOf(x, 0, 0);
        Due.signedBy(x, 0, 1);
        Due.is("the owner has it, the sponsor not", x.offer(), -16);
    }

    private static void dearerOnesReplace() {
        SignedCalls x = Due.withAccounts(100000, 100000);
        Due.is("offer", Due.offered(x, 0, 3, 10, 10, 0, 0), 0);
        Due.is("offer", Due.offered(x, 1, 3, 10, 10, 0, 0), 1);
        Due.is("offer", Due.offered(x, 0, 4, 10, 10, 0, 0), 2);
        Due.is("cheaper", Due.offered(x, 0, 3, 9, 10, 0, 0), -17);
        Due.is("alike", Due.offered(x, 0, 3, 10, 20, 0, 0), -17);
        Due.told(x, 2, 5, 3, 3, 0, 0);
        Due.is("one more", Due.offered(x, 0, 3, 11, 20, 0, 0), 3);
        Due.told(x, 2, 6, 3, 4, 1, 0);
        Due.event(x, 0, 0, 3, 0);
        Due.waits(x, 0, 1, 1, 3, 10);
        Due.waits(x, 1, 2, 0, 4, 10);
        Due.waits(x, 2, 3, 0, 3, 11);
        Due.is("waiting(3, 0)", x.waiting(3, 0), BAD);
    }

    private static void stepIsAskedAtTheOffer() {
        SignedCalls x = Due.withAccounts(100000);
        Due.is("offer", Due.offered(x, 0, 0, 10, 10, 0, 0), 0);
        Due.is("step(5)", x.step(5), 1);
        Due.is("14", Due.offered(x, 0, 0, 14, 10, 0, 0), -17);
        Due.is("15", Due.offered(x, 0, 0, 15, 10, 0, 0), 1);
        Due.is("step(1000)", x.step(1000), 5);
        Due.is("1014", Due.offered(x, 0, 0, 1014, 10, 0, 0), -17);
        Due.is("1015", Due.offered(x, 0, 0, 1015, 10, 0, 0), 2);
        Due.is("step(0)", x.step(0), BAD);
        Due.is("1016", Due.offered(x, 0, 0, 1016, 10, 0, 0), -17);
    }

    /** 24 that wait, numbers 1 to 24 of account 0: price 5, but 4 for numbers 7 and 12. */
    private static SignedCalls withAFullRow() {
        SignedCalls x = Due.withAccounts(100000, 100000);
        for (int k = 0; k < 24; k++) {
            int price = k == 6 || k == 11 ? 4 : 5;
            Due.is("offer " + k, Due.offered(x, 0, k + 1, price, 10, 0, 0), k);
        }
        return x;
    }

    private static void aFullRow() {
        SignedCalls x = withAFullRow();
        Due.is("told(2)", x.told(2), 24);
        Due.is("waiting(23, 0)", x.waiting(23, 0), 23);
        Due.is("waiting(24, 0)", x.waiting(24, 0), BAD);
        Due.is("cheaper than the least", Due.offered(x, 1, 0, 3, 10, 0, 0), -18);
        Due.is("as the least", Due.offered(x, 1, 0, 4, 10, 0, 0), -18);
        Due.told(x, 2, 26, 24, 24, 0, 0);
        Due.is("dearer than the least", Due.offered(x, 1, 0, 5, 10, 0, 0), 24);
        Due.event(x, 0, 11, 4, 0);
        Due.is("dearer than the least", Due.offered(x, 1, 1, 9, 10, 0, 0), 25);
        Due.event(x, 0, 6, 4, 0);
        Due.event(x, 1, 11, 4, 0);
        Due.is("all are 5 now", Due.offered(x, 1, 2, 5, 10, 0, 0), -18);
        Due.is("dearer: the latest of price 5 goes", Due.offered(x, 1, 2, 6, 10, 0, 0), 26);
        Due.event(x, 0, 24, 4, 0);
        Due.told(x, 2, 30, 24, 27, 3, 0);
        Due.waits(x, 21, 23, 0, 24, 5);
        Due.waits(x, 22, 25, 1, 1, 9);
        Due.waits(x, 23, 26, 1, 2, 6);
        Due.waits(x, 6, 7, 0, 8, 5);
        Due.waits(x, 10, 12, 0, 13, 5);
    }

    private static void aFullRowReplaces() {
        SignedCalls x = withAFullRow();
        Due.is("a replacing one needs no place", Due.offered(x, 0, 7, 5, 10, 0, 0), 24);
        Due.event(x, 0, 6, 3, 0);
        Due.told(x, 2, 25, 24, 25, 1, 0);
        Due.is("not even if the least is dearer", Due.offered(x, 0, 24, 5, 10, 0, 0), -17);
        Due.waits(x, 23, 24, 0, 7, 5);
        Due.is("waiting(6, 0)", x.waiting(6, 0), 7);
    }

    private static void theFirstIsTheLeast() {
        SignedCalls x = Due.withAccounts(100000);
        for (int k = 0; k < 24; k++) {
            Due.is("offer " + k, Due.offered(x, 0, k, k < 2 ? k : 5, 10, 0, 0), k);
        }
        Due.is("as the least", Due.offered(x, 0, 24, 0, 10, 0, 0), -18);
        Due.is("above the least", Due.offered(x, 0, 24, 1, 10, 0, 0), 24);
        Due.event(x, 0, 0, 4, 0);
        Due.waits(x, 0, 1, 0, 1, 1);
        Due.waits(x, 23, 24, 0, 24, 1);
        Due.is("above two alike: the later goes", Due.offered(x, 0, 25, 2, 10, 0, 0), 25);
        Due.event(x, 0, 24, 4, 0);
        Due.is("above the first", Due.offered(x, 0, 26, 3, 10, 0, 0), 26);
        Due.event(x, 0, 1, 4, 0);
        Due.told(x, 1, 28, 24, 27, 3, 0);
    }

    private static void waitingRefuses() {
        SignedCalls x = Due.withAccounts(1000);
        Due.is("waiting(0, 0)", x.waiting(0, 0), BAD);
        Due.is("offer()", x.offer(), NONE);
        Due.offered(x, 0, 0, 1, 10, 0, 0);
        Due.offered(x, 0, 1, 1, 10, 0, 0);
        int[] bad = {-1, 2, 24, MIN, MAX};
        for (int i : bad) {
            Due.is("waiting(" + i + ", 0)", x.waiting(i, 0), BAD);
        }
        int[] badWhat = {-1, 4, 5, MIN, MAX};
        for (int what : badWhat) {
            Due.is("waiting(0, " + what + ")", x.waiting(0, what), BAD);
        }
        Due.waits(x, 1, 1, 0, 1, 1);
        x.block(10);
        Due.waits(x, 0, 1, 0, 1, 1);
        Due.is("waiting(1, 0)", x.waiting(1, 0), BAD);
    }
}
