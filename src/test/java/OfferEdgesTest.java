/** The document's part 2, THE DRAFT, with promises 7 to 14 and 17: what refuses an offer, who goes for it, who waits. */
public final class OfferEdgesTest {
    private static final int BAD = SignedCalls.BAD, NONE = SignedCalls.NONE, FULL = SignedCalls.FULL;
    private static final int MIN = Integer.MIN_VALUE, MAX = Integer.MAX_VALUE;
    private static final long MOST = 1_000_000_000_000L;

    public static void main(String[] args) {
        signaturesAreTwelve();
        aNewDraft();
        withoutADraft();
        theDraftStays();
        refusedByNoAct();
        refusedByEnd();
        refusedByNumber();
        refusedByTheOwnersLock();
        refusedByTheSponsorsLock();
        refusedByTheStake();
        refusedByTheSponsorsFunds();
        refusedByStep();
        refusedByStepAtTheGreatestPrice();
        refusedByOwnerAndNumberTogether();
        refusedByTheRow();
        notRefusedByTheRowOfTwentyThree();
        refusedByTheRowAtTheGreatestPrice();
        everySetOfReasons();
        ticketsAreForThoseThatWait();
        replaced();
        replacedInAFullRow();
        replacedFromAnyPlace();
        pushed();
        pushedIsTheGreatestTicketOfAlikeOnes();
        pushedByTheTicketOfTheReplacingOne();
        pushedFromAnyPlace();
        pushedMayBeOfTheSameOwner();
        waitingByTickets();
        Due.end();
    }

    private static void signaturesAreTwelve() {
        Run r = new Run("with SIGNATURES (12 at most)").accounts(5).due(0, "sign", 0, 1).due(NONE, "add", 0).drafted(0, 0, 0, 10, 0, 0);
        long digest = r.call("digest");
        r.due(1, "sign", 0, digest);
        for (int k = 1; k <= 11; k++) {
            r.due(k, "add", 0);
        }
        r.due(BAD, "add", 2).due(BAD, "add", -1).due(BAD, "add", MIN).due(BAD, "add", MAX).due(-14, "offer");
        r.due(12, "add", 1).due(FULL, "add", 0).due(FULL, "add", 1).due(BAD, "add", 2).due(0, "offer");
        r.drafted(0, 1, 0, 10).due(1, "add", 0);
    }

    private static void aNewDraft() {
        Run r = new Run("A new DRAFT, with END 1000000, START 0, no SPONSOR, no ACTS, no SIGNATURES").accounts(500, 500);
        r.drafted(0, 0, 1, 10, 0, 1, 0, 2, 0, 3, 0, 4).due(1, "until", 1).due(1, "from", 2).due(1, "sponsor", 1);
        r.signed(0, 1, 0, 1, 0, 1, 0, 1, 0, 1, 0, 1).due(FULL, "add", 0).due(FULL, "act", 0, 1);
        r.due(1, "draft", 1, 3, 4, 10).due(Run.digestOf(1, 3, 4, 10, 1000000, 0, -1), "digest");
        r.due(-11, "offer").due(1, "act", 0, 1).due(-14, "offer").due(1, "add", 0);
    }

    private static void withoutADraft() {
        Run r = new Run("NONE (there is no DRAFT)").accounts(5).due(0, "sign", 0, 0);
        String[] names = {"until", "from", "sponsor", "add"};
        for (String name : names) {
            r.due(NONE, name, 0).due(BAD, name, -2);
        }
        r.due(NONE, "sponsor", -1).due(BAD, "sponsor", 1).due(NONE, "act", 0, 0).due(BAD, "act", 1, 0).due(BAD, "act", 0, -1);
        r.due(NONE, "until", 1000000).due(BAD, "until", 1000001).due(NONE, "from", 1000000).due(BAD, "from", 1000001);
        r.due(BAD, "add", 1).due(NONE, "offer").due(0, "digest").due(BAD, "draft", 0, -1, 1, 10).due(NONE, "offer");
        r.due(0, "block", 0).told(1, 1, 0, 0, 0, 1);
    }

    private static void theDraftStays() {
        Run r = new Run("THE DRAFT is OFFERED (and stays)").accounts(500).drafted(0, 0, 1, 10, 0, 1);
        r.due(-14, "offer").signed(0).due(0, "offer").due(-17, "offer").due(2, "add", 0);
        r.due(Run.digestOf(0, 0, 1, 10, 1000000, 0, -1, 0, 1), "digest").due(1, "block", 10).due(-13, "offer");
    }

    private static void refusedByNoAct() {
        Run r = new Run("1 it has no ACT").accounts(5).drafted(0, 0, 0, 10).signed(0).due(-11, "offer").told(1, 1, 0, 0, 0, 0);
        r.due(1, "act", 0, 0).due(-14, "offer").signed(0).due(0, "offer");
    }

    private static void refusedByEnd() {
        Run r = new Run("2 END is below HEIGHT").accounts(5).drafted(0, 5, 0, 10, 0, 0).due(1, "until", 0).signed(0);
        r.due(0, "offer").due(0, "block", 0).event(0, 0, 2, 0).due(-12, "offer");
        r.due(1, "until", 1).signed(0).due(1, "offer").due(0, "block", 0).due(-12, "offer");
        r.due(1, "until", 2).signed(0).due(2, "offer").due(1, "until", 1).due(-12, "offer");
        r.told(1, 3, 1, 3, 2, 2);
    }

    private static void refusedByNumber() {
        Run r = new Run("3 NUMBER is below the OWNER's NEXT").accounts(5, 5);
        r.row(0, 0, 0, 3, 0).due(3, "block", 1000).due(3, "next", 0);
        r.offered(-13, 0, 0, 5, 10, 0, 0).offered(-13, 0, 2, 0, 10, 0, 0).told(2, 5, 0, 3, 3, 1);
        r.offered(3, 0, 3, 0, 10, 0, 0).offered(4, 1, 0, 0, 10, 0, 0).offered(5, 0, 999, 0, 10, 0, 0);
    }

    private static void refusedByTheOwnersLock() {
        Run r = new Run("4 the OWNER's LOCK is not MET").due(0, "account", 5, 0b101, 2).due(1, "account", 5, 0b010, 1);
        r.drafted(0, 0, 0, 10, 1, 0).due(1, "sponsor", 1).signed(1, 0).due(-14, "offer").signed(2).due(0, "offer");
        r.drafted(0, 1, 0, 10, 1, 0).signed(0, 2).due(1, "lock", 0, 0b111, 3).due(-14, "offer").signed(1).due(1, "offer");
        r.due(1, "lock", 0, 0b1000, 1).due(-14, "offer").due(2, "block", 100);
    }

    private static void refusedByTheSponsorsLock() {
        Run r = new Run("5 the SPONSOR's is not").due(0, "account", 5, 1, 1).due(1, "account", 5, 0b110, 2);
        r.drafted(0, 0, 0, 10, 1, 0).due(1, "sponsor", 1).signed(0, 1).due(-15, "offer").signed(2).due(0, "offer");
        // Without a sponsor there is no lock but the owner's.
        r.drafted(0, 1, 0, 10, 1, 0).signed(0).due(1, "offer");
        r.drafted(0, 2, 0, 10, 1, 0).due(1, "sponsor", 0).signed(0).due(2, "offer");
        r.drafted(1, 0, 0, 10, 1, 0).due(1, "sponsor", 0).signed(1, 2).due(-15, "offer").due(1, "lock", 0, 2, 1).due(3, "offer");
    }

    private static void refusedByTheStake() {
        Run r = new Run("6 the PAYER's FUNDS are below THE STAKE").accounts(209, 210, 0);
        r.offered(-16, 0, 0, 21, 10, 0, 0).offered(0, 1, 0, 21, 10, 0, 0).offered(1, 2, 0, 0, 1000, 0, 0);
        r.offered(-16, 2, 1, 1, 10, 0, 0).offered(2, 0, 0, 19, 11, 0, 0);
        // What already waits is not looked at: each stake alone must be there.
        r.offered(3, 1, 1, 21, 10, 0, MOST).told(3, 6, 4, 4, 0, 0);
    }

    private static void refusedByTheSponsorsFunds() {
        Run r = new Run("6 the PAYER's, with a SPONSOR").accounts(1000, 209, 210);
        r.drafted(0, 0, 21, 10, 0, 0).due(1, "sponsor", 1).signed(0, 1).due(-16, "offer");
        r.due(1, "sponsor", 2).signed(0, 2).due(0, "offer");
        r.drafted(1, 0, 21, 10, 0, 0).due(1, "sponsor", 2).signed(1, 2).due(1, "offer");
    }

    private static void refusedByStep() {
        int[] steps = {1, 2, 7, 1000};
        for (int step : steps) {
            Run r = new Run("7 its PRICE is below that one's and STEP (1 at first) together").accounts(MOST);
            r.offered(0, 0, 0, 10, 10, 0, 0);
            if (step > 1) {
                r.due(1, "step", step);
            }
            r.offered(-17, 0, 0, 0, 10, 0, 0).offered(-17, 0, 0, 10, 10, 0, 0).offered(-17, 0, 0, 10 + step - 1, 10, 0, 0);
            r.told(1, 4, 1, 1, 0, 0).waits(0, 0, 0, 0, 10);
            r.offered(1, 0, 0, 10 + step, 10, 0, 0).event(0, 0, 3, 0);
            r.offered(-17, 0, 0, 10 + 2 * step - 1, 10, 0, 0).offered(2, 0, 0, 10 + 2 * step, 10, 0, 0).event(0, 1, 3, 0);
            r.told(1, 7, 1, 3, 2, 0).waits(0, 2, 0, 0, 10 + 2 * step);
        }
    }

    private static void refusedByStepAtTheGreatestPrice() {
        Run r = new Run("7 .. PRICE (0 .. 1000000)").accounts(MOST);
        r.offered(0, 0, 0, 999999, 10, 0, 0).due(1, "step", 2).offered(-17, 0, 0, 1000000, 10, 0, 0);
        r.due(2, "step", 1).due(1, "offer").due(-17, "offer").due(1, "step", 1000).due(-17, "offer");
        r.offered(2, 0, 1, 0, 10, 0, 0).offered(-17, 0, 1, 999, 10, 0, 0).offered(3, 0, 1, 1000, 10, 0, 0);
    }

    private static void refusedByOwnerAndNumberTogether() {
        Run r = new Run("7 a CALL with its OWNER and NUMBER").accounts(MOST, MOST);
        r.offered(0, 0, 5, 9, 10, 0, 0).offered(1, 1, 5, 1, 10, 0, 0).offered(2, 0, 6, 1, 10, 0, 0).offered(3, 1, 6, 1, 10, 0, 0);
        r.offered(-17, 0, 5, 9, 10, 0, 0).offered(4, 1, 6, 2, 10, 0, 0).event(0, 3, 3, 0).told(2, 6, 4, 5, 1, 0);
        // What was done waits no more: the number is used, not taken.
        r.offered(5, 0, 0, 9, 10, 0, 0).due(1, "block", 10).offered(-13, 0, 0, 1, 10, 0, 0);
    }

    private static void refusedByTheRow() {
        Run r = new Run("8 24 WAIT, and its PRICE is not above the least PRICE of these").accounts(MOST, MOST);
        r.row(0, 0, 1, 12, 6).offered(12, 0, 13, 3, 10, 0, 0).row(13, 0, 14, 11, 6).due(24, "told", 2);
        r.offered(-18, 1, 0, 2, 10, 0, 0).offered(-18, 1, 0, 3, 10, 0, 0).offered(-18, 1, 0, 0, 10, 0, 0);
        r.told(2, 27, 24, 24, 0, 0).waits(12, 12, 0, 13, 3);
        r.offered(24, 1, 0, 4, 10, 0, 0).event(0, 12, 4, 0).told(2, 28, 24, 25, 1, 0);
        r.offered(-18, 1, 1, 4, 10, 0, 0).offered(25, 1, 1, 5, 10, 0, 0).event(0, 24, 4, 0);
    }

    private static void notRefusedByTheRowOfTwentyThree() {
        Run r = new Run("24 WAIT, not 23").accounts(MOST, MOST).row(0, 0, 1, 23, 6).due(23, "told", 2);
        r.offered(23, 1, 0, 0, 10, 0, 0).told(2, 24, 24, 24, 0, 0).waits(23, 23, 1, 0, 0);
        r.offered(-18, 1, 1, 0, 10, 0, 0).due(1, "block", 10).due(23, "told", 2).due(24, "offer").told(2, 25, 24, 25, 1, 1);
    }

    private static void refusedByTheRowAtTheGreatestPrice() {
        Run r = new Run("8 .. PRICE (0 .. 1000000)").accounts(MOST, MOST).row(0, 0, 1, 24, 1000000);
        r.offered(-18, 1, 0, 1000000, 10, 0, 0).offered(-18, 1, 0, 0, 10, 0, 0).offered(-17, 0, 24, 1000000, 10, 0, 0);
        r.told(2, 27, 24, 24, 0, 0);
        Run low = new Run("8 .. PRICE (0 .. 1000000)").accounts(MOST, MOST).row(0, 0, 1, 24, 0);
        low.offered(-18, 1, 0, 0, 10, 0, 0).offered(24, 1, 0, 1, 10, 0, 0).event(0, 23, 4, 0);
    }

    /** For every set of the eight that can be together, the least of it is what refuses. */
    private static void everySetOfReasons() {
        int sets = 0;
        for (int set = 0; set < 256; set++) {
            boolean numberIsUsed = has(set, 3);
            boolean oneWaits = has(set, 7);
            // 8 is only without such a one, and a number that is used does not wait.
            if (oneWaits && (has(set, 8) || numberIsUsed)) {
                continue;
            }
            sets++;
            refusedByTheLeast(set, true);
            if (!has(set, 5)) {
                refusedByTheLeast(set, false);
            }
        }
        Due.is("sets of reasons", sets, 256 - 64 - 32);
    }

    private static boolean has(int set, int reason) {
        return (set >> reason - 1 & 1) == 1;
    }

    private static void refusedByTheLeast(int set, boolean sponsored) {
        Run r = new Run("is refused by the first of these, of the set " + Integer.toBinaryString(set) + (sponsored ? ", sponsored" : ""));
        long payersFunds = has(set, 6) ? 59 : 60;
        // The owner's first call costs nothing and makes NEXT and HEIGHT one.
        r.accounts(sponsored ? 1000 : payersFunds, sponsored ? payersFunds : 1000, MOST).offered(0, 0, 0, 0, 10, 0, 0).due(1, "block", 10);
        int tickets = 1;
        if (has(set, 7)) {
            r.drafted(0, 1, 6, 10, 0, 0).due(1, "sponsor", 2).signed(0, 2).due(tickets++, "offer");
        }
        if (has(set, 8)) {
            r.row(tickets, 2, 1, 24, 6);
            tickets += 24;
        }
        r.due(1, "draft", 0, has(set, 3) ? 0 : 1, 6, 10).due(1, "until", has(set, 2) ? 0 : 1);
        if (sponsored) {
            r.due(1, "sponsor", 1);
        }
        if (!has(set, 1)) {
            r.due(1, "act", 2, 1);
        }
        if (!has(set, 4)) {
            r.signed(0);
        }
        if (sponsored && !has(set, 5)) {
            r.signed(1);
        }
        long due = set == 0 ? tickets : -11 - Integer.numberOfTrailingZeros(set);
        r.due(due, "offer").due(set == 0 ? tickets + 1 : tickets, "told", 3);
    }

    private static void ticketsAreForThoseThatWait() {
        Run r = new Run("with the next TICKET (0, 1, ..)").accounts(MOST).due(0, "told", 3);
        r.offered(0, 0, 9, 5, 10, 0, 0).due(1, "told", 3).due(-17, "offer").due(1, "told", 3);
        r.offered(1, 0, 9, 6, 10, 0, 0).due(2, "told", 3).due(0, "block", 100).due(2, "told", 3);
        r.offered(2, 0, 0, 6, 10, 0, 0).due(1, "block", 100).offered(3, 0, 1, 6, 10, 0, 0).due(4, "told", 3);
    }

    private static void replaced() {
        Run r = new Run("what waited with its OWNER and NUMBER is GONE (REPLACED)").accounts(MOST, MOST).row(0, 0, 1, 3, 5);
        r.offered(3, 0, 1, 6, 10, 0, 0).event(0, 0, 3, 0).waits(0, 1, 0, 2, 5).waits(1, 2, 0, 3, 5).waits(2, 3, 0, 1, 6);
        r.offered(4, 0, 1, 7, 10, 0, 0).event(0, 3, 3, 0).waits(2, 4, 0, 1, 7).due(BAD, "waiting", 3, 0);
        r.offered(5, 0, 3, 7, 10, 0, 0).event(0, 2, 3, 0).waits(0, 1, 0, 2, 5).waits(1, 4, 0, 1, 7).waits(2, 5, 0, 3, 7);
        r.told(2, 6, 3, 6, 3, 0).due(0, "paid").due(MOST, "funds", 0).due(0, "next", 0);
        // The new one's acts are done, not the old one's.
        r.offered(6, 0, 0, 1, 10, 1, 30).drafted(0, 0, 2, 10, 1, 50).signed(0).due(7, "offer").due(4, "block", 100).due(MOST + 50, "funds", 1);
    }

    private static void replacedInAFullRow() {
        Run r = new Run("REPLACED; without such a one, if 24 waited, PUSHED").accounts(MOST).row(0, 0, 1, 1, 2).row(1, 0, 2, 23, 5);
        r.offered(24, 0, 24, 6, 10, 0, 0).event(0, 23, 3, 0).told(1, 25, 24, 25, 1, 0).waits(0, 0, 0, 1, 2).waits(23, 24, 0, 24, 6);
        r.offered(25, 0, 1, 3, 10, 0, 0).event(0, 0, 3, 0).told(1, 26, 24, 26, 2, 0).waits(0, 1, 0, 2, 5).waits(23, 25, 0, 1, 3);
    }

    private static void replacedFromAnyPlace() {
        for (int place = 0; place < 24; place++) {
            Run r = new Run("REPLACED, from place " + place + " of the row").accounts(MOST).row(0, 0, 1, 24, 5);
            r.offered(-17, 0, place + 1, 5, 10, 0, 0).offered(24, 0, place + 1, 6, 10, 0, 0).event(0, place, 3, 0).due(24, "told", 2);
            for (int i = 0; i < 24; i++) {
                r.due(i < place ? i : i + 1, "waiting", i, 0);
            }
        }
    }

    private static void pushed() {
        Run r = new Run("if 24 waited, that of the least PRICE is GONE (PUSHED)").accounts(MOST, MOST);
        for (int k = 0; k < 24; k++) {
            r.offered(k, 0, k + 1, 100 - 3 * k, 10, 0, 0);
        }
        r.told(2, 24, 24, 24, 0, 0);
        for (int k = 0; k < 3; k++) {
            r.offered(24 + k, 1, k, 200, 10, 0, 0).event(0, 23 - k, 4, 0).due(24, "told", 2).due(24 + k, "waiting", 23, 0);
        }
        r.due(20, "waiting", 20, 0).due(24, "waiting", 21, 0).due(BAD, "waiting", 24, 0).told(2, 27, 24, 27, 3, 0);
        r.due(MOST, "funds", 0).due(0, "paid");
    }

    private static void pushedIsTheGreatestTicketOfAlikeOnes() {
        Run r = new Run("of alike ones of the greatest TICKET").accounts(MOST, MOST);
        r.row(0, 0, 1, 10, 5).row(10, 0, 11, 5, 4).row(15, 0, 16, 9, 5);
        r.offered(24, 1, 0, 5, 10, 0, 0).event(0, 14, 4, 0).offered(25, 1, 1, 5, 10, 0, 0).event(0, 13, 4, 0);
        r.offered(26, 1, 2, 9, 10, 0, 0).event(0, 12, 4, 0).offered(27, 1, 3, 9, 10, 0, 0).event(0, 11, 4, 0);
        r.offered(28, 1, 4, 9, 10, 0, 0).event(0, 10, 4, 0).offered(29, 1, 5, 9, 10, 0, 0).event(0, 25, 4, 0);
        r.offered(30, 1, 6, 9, 10, 0, 0).event(0, 24, 4, 0).offered(31, 1, 7, 9, 10, 0, 0).event(0, 23, 4, 0);
    }

    /** A replacing one has a new ticket, and goes as the latest of its price. */
    private static void pushedByTheTicketOfTheReplacingOne() {
        Run r = new Run("of alike ones of the greatest TICKET, after REPLACED").accounts(MOST, MOST);
        r.row(0, 0, 1, 1, 5).row(1, 0, 2, 23, 6).offered(24, 0, 1, 6, 10, 0, 0).event(0, 0, 3, 0);
        r.offered(25, 1, 0, 7, 10, 0, 0).event(0, 24, 4, 0).offered(26, 1, 1, 7, 10, 0, 0).event(0, 23, 4, 0);
    }

    private static void pushedFromAnyPlace() {
        for (int place = 0; place < 24; place++) {
            Run r = new Run("PUSHED, from place " + place + " of the row").accounts(MOST);
            r.row(0, 0, 1, place, 5).row(place, 0, place + 1, 1, 4).row(place + 1, 0, place + 2, 23 - place, 5);
            r.offered(24, 0, 30, 5, 10, 0, 0).event(0, place, 4, 0).due(24, "told", 2);
            for (int i = 0; i < 24; i++) {
                r.due(i < place ? i : i + 1, "waiting", i, 0);
            }
        }
    }

    private static void pushedMayBeOfTheSameOwner() {
        Run r = new Run("PUSHED leaves its number free").accounts(MOST).row(0, 0, 0, 24, 5);
        r.offered(24, 0, 24, 6, 10, 0, 0).event(0, 23, 4, 0).offered(-18, 0, 23, 5, 10, 0, 0).offered(25, 0, 23, 6, 10, 0, 0).event(0, 22, 4, 0);
        r.due(22, "block", 10000).due(22, "next", 0).waits(0, 24, 0, 24, 6).waits(1, 25, 0, 23, 6).due(2, "told", 2);
    }

    private static void waitingByTickets() {
        Run r = new Run("Of the i-th that WAITS, by TICKETS").due(BAD, "waiting", 0, 0).accounts(MOST);
        for (int k = 0; k < 24; k++) {
            r.offered(k, 0, 100 - k, 50 + k, 10, 0, 0).due(k, "waiting", k, 0).due(BAD, "waiting", k + 1, 0);
        }
        r.due(0, "waiting", 0, 0).due(0, "waiting", 0, 1).due(100, "waiting", 0, 2).due(50, "waiting", 0, 3);
        r.due(23, "waiting", 23, 0).due(0, "waiting", 23, 1).due(77, "waiting", 23, 2).due(73, "waiting", 23, 3);
        r.due(BAD, "waiting", 23, 4).due(BAD, "waiting", 23, -1).due(BAD, "waiting", 23, MIN).due(BAD, "waiting", 23, MAX);
        r.due(BAD, "waiting", 24, 3).due(BAD, "waiting", -1, 0).due(BAD, "waiting", MIN, 0).due(BAD, "waiting", MAX, 0);
    }
}
