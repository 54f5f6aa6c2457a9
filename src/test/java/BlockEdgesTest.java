/** The document's part 3, A BLOCK, and EVENTS, with promises 16, 18 and 19: every bound of what is taken, and what comes of it. */
public final class BlockEdgesTest {
    private static final int BAD = SignedCalls.BAD;
    private static final int MIN = Integer.MIN_VALUE, MAX = Integer.MAX_VALUE;
    private static final long MOST = 1_000_000_000_000L;

    public static void main(String[] args) {
        rooms();
        heightIsOneMore();
        endedBelowHeight();
        endedByTickets();
        endedOnesAreNotTaken();
        takenAtNext();
        takenAtStart();
        startAndEndTogether();
        takenWithinTheRoom();
        roomLosesTheUnits();
        roomIsLostToFailedOnes();
        takenByPrice();
        takenByTheLeastTicketOfAlikeOnes();
        takenAgainAndAgain();
        theLockIsNotAskedAgain();
        poorBelowTheStake();
        poorSponsors();
        poorOnesLoseNothing();
        failedByUnits();
        failedByFunds();
        failedByFundsAtEachAct();
        failedByFundsOfTheOwnerThatIsSponsored();
        failedByUnitsBeforeFunds();
        anActToTheOwner();
        undoneToAllAccounts();
        whatThePayerGetsBack();
        paidGrows();
        paidIsMoreThanAnInt();
        doneOnesAreCounted();
        eventsAreEmptyAtFirst();
        eventsOfEachKind();
        eventsAreSixty();
        Due.end();
    }

    /** A call of an owner whose key is its number, with an END and a START, that gives nothing. */
    private static Run between(Run r, long want, int owner, int number, int price, int start, int end) {
        return r.drafted(owner, number, price, 10, owner, 0).due(1, "until", end).due(1, "from", start).signed(owner).due(want, "offer");
    }

    private static void rooms() {
        Run r = new Run("A BLOCK with so much ROOM (0 .. 10000)").accounts(MOST).row(0, 0, 0, 2, 1);
        int[] bad = {-1, 10001, MIN, MAX, -10000};
        for (int room : bad) {
            r.due(BAD, "block", room).due(0, "told", 5).due(2, "told", 2);
        }
        r.due(0, "block", 0).due(1, "told", 5).due(2, "told", 2).due(2, "block", 10000).due(2, "told", 5).due(0, "told", 2);
    }

    private static void heightIsOneMore() {
        Run r = new Run("HEIGHT becomes one more");
        for (int height = 0; height < 100; height++) {
            r.due(height, "told", 5).due(0, "block", height % 2 == 0 ? 0 : 10000).due(BAD, "block", -1);
        }
        r.told(0, 0, 0, 0, 0, 100);
    }

    private static void endedBelowHeight() {
        Run r = new Run("one whose END is below HEIGHT is GONE (ENDED)").accounts(MOST);
        between(r, 0, 0, 9, 5, 0, 0);
        between(r, 1, 0, 8, 5, 0, 1);
        between(r, 2, 0, 7, 5, 0, 2);
        between(r, 3, 0, 6, 5, 0, 1000000);
        r.due(0, "block", 100).event(0, 0, 2, 0).due(3, "told", 2).due(1, "told", 4);
        r.due(0, "block", 100).event(0, 1, 2, 0).due(2, "told", 2).due(2, "told", 4);
        r.due(0, "block", 100).event(0, 2, 2, 0).waits(0, 3, 0, 6, 5).told(1, 4, 1, 4, 3, 3);
        r.due(0, "block", 100).told(1, 4, 1, 4, 3, 4).due(MOST, "funds", 0).due(0, "next", 0).due(0, "paid");
    }

    private static void endedByTickets() {
        Run r = new Run("by TICKETS, one whose END is below HEIGHT").accounts(MOST);
        for (int k = 0; k < 24; k++) {
            between(r, k, 0, 50 - k, k % 5, 0, k % 4 == 3 ? 1 : 0);
        }
        r.due(0, "block", 0).told(1, 24, 6, 24, 18, 1);
        for (int k = 0; k < 18; k++) {
            r.due(k / 3 * 4 + k % 3, "event", 17 - k, 0).due(2, "event", 17 - k, 1);
        }
        for (int k = 0; k < 6; k++) {
            r.due(4 * k + 3, "waiting", k, 0);
        }
        r.due(0, "block", 10000).told(1, 24, 0, 24, 24, 2).due(23, "event", 0, 0).due(3, "event", 5, 0);
        Run all = new Run("ENDED, all 24").accounts(MOST);
        for (int k = 0; k < 24; k++) {
            between(all, k, 0, k, 5, 0, 0);
        }
        all.due(0, "block", 10000).told(1, 24, 0, 24, 24, 1).event(23, 0, 2, 0).event(0, 23, 2, 0).due(0, "next", 0).due(0, "paid");
    }

    private static void endedOnesAreNotTaken() {
        Run r = new Run("GONE (ENDED). Then ..").accounts(MOST);
        between(r, 0, 0, 0, 9, 0, 0);
        between(r, 1, 0, 1, 9, 0, 5);
        r.due(0, "block", 100).event(0, 0, 2, 0).told(1, 2, 1, 2, 1, 1).due(0, "next", 0);
        between(r, 2, 0, 0, 9, 0, 2);
        r.due(2, "block", 100).event(1, 2, 0, 10).event(0, 1, 0, 10);
    }

    private static void takenAtNext() {
        Run r = new Run("whose NUMBER is the OWNER's NEXT").accounts(MOST, MOST).offered(0, 0, 1, 9, 10, 0, 0).offered(1, 1, 0, 1, 10, 0, 0);
        r.due(1, "block", 1000).event(0, 1, 0, 10).waits(0, 0, 0, 1, 9).due(0, "next", 0).due(1, "next", 1);
        r.offered(2, 0, 0, 1, 10, 0, 0).due(2, "block", 1000).event(1, 2, 0, 10).event(0, 0, 0, 10).due(2, "next", 0);
    }

    private static void takenAtStart() {
        Run r = new Run("START not above HEIGHT").accounts(MOST, MOST, MOST, MOST);
        between(r, 0, 0, 0, 9, 2, 1000000);
        between(r, 1, 1, 0, 1, 1, 1000000);
        between(r, 2, 2, 0, 2, 0, 1000000);
        between(r, 3, 3, 0, 2, 1000000, 1000000);
        r.due(2, "block", 1000).event(1, 2, 0, 10).event(0, 1, 0, 10).due(2, "told", 2);
        r.due(1, "block", 1000).event(0, 0, 0, 10).waits(0, 3, 3, 0, 2).due(1, "told", 2);
    }

    private static void startAndEndTogether() {
        Run r = new Run("an END and a START").accounts(MOST, MOST);
        between(r, 0, 0, 0, 9, 2, 2);
        between(r, 1, 1, 0, 9, 2, 1);
        r.due(0, "block", 1000).due(2, "told", 2).due(1, "block", 1000).event(1, 1, 2, 0).event(0, 0, 0, 10).due(0, "told", 2);
    }

    private static void takenWithinTheRoom() {
        int[] limits = {10, 11, 999, 1000};
        for (int limit : limits) {
            Run r = new Run("LIMIT not above the ROOM that is left").accounts(MOST).offered(0, 0, 0, 9, limit, 0, 0);
            r.due(0, "block", limit - 1).due(1, "told", 2).due(0, "told", 4).due(1, "block", limit).event(0, 0, 0, 10);
        }
        Run r = new Run("LIMIT not above ROOM: a cheaper one may fit").accounts(MOST, MOST);
        r.offered(0, 0, 0, 9, 21, 0, 0).offered(1, 1, 0, 1, 20, 0, 0).due(1, "block", 20).event(0, 1, 0, 10).waits(0, 0, 0, 0, 9);
    }

    private static void roomLosesTheUnits() {
        for (int few = 0; few < 2; few++) {
            Run r = new Run("ROOM loses these UNITS").accounts(MOST);
            for (int k = 0; k < 24; k++) {
                r.offered(k, 0, k, 5, 1000, 0, 0);
            }
            // Each uses 10 of its 1000: before the last one 230 are lost.
            r.due(24 - few, "block", 1230 - few).due(few, "told", 2).due(50 * (24 - few), "paid");
        }
        Run r = new Run("ROOM loses these UNITS, of four ACTS").accounts(MOST).drafted(0, 0, 1, 40, 0, 0, 0, 0, 0, 0, 0, 0).signed(0).due(0, "offer");
        r.offered(1, 0, 1, 1, 10, 0, 0).due(1, "block", 49).due(1, "block", 10);
    }

    private static void roomIsLostToFailedOnes() {
        Run r = new Run("ROOM loses these UNITS, FAILED").accounts(500, 500).drafted(0, 0, 9, 20, 1, 0, 1, 501).signed(0).due(0, "offer");
        r.offered(1, 1, 0, 1, 10, 0, 0).due(0, "block", 29).event(0, 0, 1, 20).due(1, "told", 2).due(1, "block", 10);
    }

    private static void takenByPrice() {
        Run r = new Run("that of the greatest PRICE").accounts(MOST, MOST, MOST, MOST);
        r.offered(0, 0, 0, 0, 10, 0, 0).offered(1, 1, 0, 1000000, 10, 0, 0).offered(2, 2, 0, 999999, 10, 0, 0).offered(3, 3, 0, 1, 10, 0, 0);
        r.due(1, "block", 10).event(0, 1, 0, 10).due(1, "block", 10).event(0, 2, 0, 10);
        r.due(1, "block", 10).event(0, 3, 0, 10).due(1, "block", 10).event(0, 0, 0, 10).due(0, "block", 10);
    }

    private static void takenByTheLeastTicketOfAlikeOnes() {
        Run r = new Run("of alike ones of the least TICKET").accounts(MOST, MOST, MOST, MOST);
        r.offered(0, 3, 0, 4, 10, 0, 0).offered(1, 1, 0, 5, 10, 0, 0).offered(2, 0, 0, 5, 10, 0, 0).offered(3, 2, 0, 5, 10, 0, 0);
        r.offered(4, 3, 0, 5, 10, 0, 0).event(0, 0, 3, 0).due(1, "block", 10).event(0, 1, 0, 10);
        r.due(3, "block", 1000).event(2, 2, 0, 10).event(1, 3, 0, 10).event(0, 4, 0, 10);
    }

    private static void takenAgainAndAgain() {
        Run r = new Run("again and again, till there is none").accounts(MOST, MOST);
        for (int k = 0; k < 12; k++) {
            r.offered(2 * k, 0, 11 - k, 100, 10, 0, 0).offered(2 * k + 1, 1, 11 - k, 50 + k, 10, 0, 0);
        }
        r.due(24, "block", 240).due(12, "next", 0).due(12, "next", 1).told(2, 24, 0, 24, 24, 1);
        for (int k = 0; k < 12; k++) {
            r.due(22 - 2 * k, "event", 23 - k, 0).due(23 - 2 * k, "event", 11 - k, 0);
        }
    }

    private static void theLockIsNotAskedAgain() {
        Run r = new Run("of those that WAIT").accounts(MOST, MOST).offered(0, 0, 0, 9, 10, 0, 0).due(1, "lock", 0, 2, 1);
        r.due(1, "block", 100).offered(-14, 0, 1, 9, 10, 0, 0);
    }

    /** The first call leaves the owner so much, for the second one's stake of 200. */
    private static Run leaves(String sentence, int left) {
        Run r = new Run(sentence).accounts(1000, 0).offered(0, 0, 0, 1, 10, 1, 990 - left);
        return r.offered(1, 0, 1, 10, 20, 1, 0).offered(2, 0, 2, 0, 10, 1, 0);
    }

    private static void poorBelowTheStake() {
        Run enough = leaves("If the PAYER's FUNDS are below THE STAKE: not at it", 200);
        enough.due(3, "block", 1000).event(1, 1, 0, 10).event(0, 2, 0, 10).due(100, "funds", 0).due(3, "next", 0).due(110, "paid");
        Run few = leaves("If the PAYER's FUNDS are below THE STAKE it is GONE (POOR)", 199);
        few.due(1, "block", 1000).event(0, 1, 5, 0).told(2, 3, 1, 3, 2, 1).waits(0, 2, 0, 2, 0);
        few.due(199, "funds", 0).due(1, "next", 0).due(10, "paid").due(0, "block", 1000);
        few.offered(3, 0, 1, 9, 20, 1, 0).due(2, "block", 1000).due(3, "next", 0);
    }

    private static void poorSponsors() {
        for (int few = 0; few < 2; few++) {
            Run r = new Run("If the PAYER's FUNDS are below THE STAKE, the SPONSOR's").accounts(1000, 1000, 0);
            r.offered(0, 1, 0, 20, 10, 2, 700 + few);
            r.drafted(0, 0, 10, 10, 2, 5).due(1, "sponsor", 1).signed(0, 1).due(1, "offer");
            r.due(2 - few, "block", 1000).event(0, 1, few == 1 ? 5 : 0, few == 1 ? 0 : 10);
            r.due(few == 1 ? 99 : 0, "funds", 1).due(few == 1 ? 1000 : 995, "funds", 0).due(1 - few, "next", 0);
        }
    }

    private static void poorOnesLoseNothing() {
        Run r = new Run("POOR: no ROOM, no UNITS").accounts(1000, 0, 1000).offered(0, 0, 0, 50, 10, 1, 450);
        // Its stake is more than the first one leaves; the last one needs all of the room that it does not use.
        r.offered(1, 0, 1, 40, 20, 1, 0).offered(2, 2, 0, 1, 20, 2, 0).due(2, "block", 30);
        r.event(2, 0, 0, 10).event(1, 1, 5, 0).event(0, 2, 0, 10).due(510, "paid").due(50, "funds", 0).due(1, "next", 0);
    }

    private static void failedByUnits() {
        for (int acts = 1; acts <= 4; acts++) {
            for (int limit = 10 * acts - 1; limit <= 10 * acts + 1; limit++) {
                if (limit < 10) {
                    continue;
                }
                boolean fails = limit < 10 * acts;
                int units = fails ? 10 * acts - 10 : 10 * acts;
                Run r = new Run("if more than LIMIT would be used by that, it FAILS, and these are not used").accounts(1000, 0);
                r.due(1, "draft", 0, 0, 3, limit);
                for (int k = 1; k <= acts; k++) {
                    r.due(k, "act", 1, 7);
                }
                r.signed(0).due(0, "offer").due(fails ? 0 : 1, "block", limit).event(0, 0, fails ? 1 : 0, units);
                int given = fails ? 0 : 7 * acts;
                r.due(1000 - 3 * units - given, "funds", 0).due(given, "funds", 1).due(1, "next", 0).due(3 * units, "paid");
            }
        }
    }

    private static void failedByFunds() {
        for (int more = 0; more < 2; more++) {
            Run r = new Run("the OWNER's FUNDS lose the AMOUNT (if they are below it, it FAILS)").accounts(1000, 0);
            // The stake is lost ahead of the acts: 1000 less 300.
            r.offered(0, 0, 0, 10, 30, 1, 700 + more).due(1 - more, "block", 30).event(0, 0, more, 10);
            r.due(more == 1 ? 900 : 200, "funds", 0).due(more == 1 ? 0 : 700, "funds", 1).due(1, "next", 0).due(100, "paid");
        }
        Run r = new Run("FUNDS 0 and an AMOUNT of 0").accounts(0, 0).offered(0, 0, 0, 0, 10, 1, 0).offered(1, 0, 1, 0, 10, 1, 1);
        r.due(1, "block", 100).event(1, 0, 0, 10).event(0, 1, 1, 10).due(0, "funds", 0).due(0, "funds", 1);
    }

    private static void failedByFundsAtEachAct() {
        for (int last = 1; last <= 4; last++) {
            for (int more = 0; more < 2; more++) {
                Run r = new Run("If one FAILS all ACTS are undone").accounts(1000, 5, 6).due(1, "draft", 0, 0, 2, 50);
                for (int k = 1; k <= 4; k++) {
                    // Those before it give 10 each; it asks for all that is left, or one more; those behind it for nothing.
                    long amount = k < last ? 10 : k == last ? 900 - 10 * (last - 1) + more : 0;
                    r.due(k, "act", 1 + k % 2, amount);
                }
                int units = more == 1 ? 10 * last : 40;
                r.signed(0).due(0, "offer").due(1 - more, "block", 50).event(0, 0, more, units).due(2 * units, "paid");
                r.due(more == 1 ? 1000 - 2 * units : 20, "funds", 0).due(1, "next", 0);
                long both = r.call("funds", 1) + r.call("funds", 2);
                Due.is("what both have", both, more == 1 ? 11 : 911);
                if (more == 1) {
                    r.due(5, "funds", 1).due(6, "funds", 2);
                }
            }
        }
    }

    private static void failedByFundsOfTheOwnerThatIsSponsored() {
        for (int more = 0; more < 2; more++) {
            Run r = new Run("the OWNER's FUNDS, not the PAYER's").accounts(300, 5000, 0).drafted(0, 0, 10, 50, 2, 300 + more).due(1, "sponsor", 1);
            r.signed(0, 1).due(0, "offer").due(1 - more, "block", 50).event(0, 0, more, 10);
            r.due(300L * more, "funds", 0).due(4900, "funds", 1).due(300L * (1 - more), "funds", 2).due(1, "next", 0).due(0, "next", 1);
        }
    }

    private static void failedByUnitsBeforeFunds() {
        Run r = new Run("each uses 10 UNITS first; then FUNDS").accounts(1000, 0).drafted(0, 0, 1, 19, 1, 1, 1, 5000).signed(0).due(0, "offer");
        r.due(0, "block", 19).event(0, 0, 1, 10).drafted(0, 1, 1, 20, 1, 1, 1, 5000).signed(0).due(1, "offer");
        r.due(0, "block", 20).event(0, 1, 1, 20).due(970, "funds", 0).due(0, "funds", 1).due(30, "paid");
    }

    private static void anActToTheOwner() {
        for (int more = 0; more < 2; more++) {
            Run r = new Run("and the ACCOUNT gets it: the OWNER").accounts(1000).drafted(0, 0, 10, 20, 0, 800, 0, 800 + more).signed(0).due(0, "offer");
            r.due(1 - more, "block", 20).event(0, 0, more, 20).due(800, "funds", 0);
        }
    }

    private static void undoneToAllAccounts() {
        Run r = new Run("all ACTS are undone").accounts(1000, 1, 2, 3).drafted(0, 0, 0, 40, 1, 300, 2, 300, 0, 400, 3, 401).signed(0).due(0, "offer");
        r.due(0, "block", 40).event(0, 0, 1, 40).due(1000, "funds", 0).due(1, "funds", 1).due(2, "funds", 2).due(3, "funds", 3);
        // The sponsor's own gift goes back too.
        r.drafted(0, 1, 1, 20, 1, 400, 2, 601).due(1, "sponsor", 1).due(1, "lock", 1, 1, 1).signed(0).due(-16, "offer");
        r.offered(1, 0, 1, 0, 10, 1, 100).due(1, "block", 10);
        r.drafted(0, 2, 1, 20, 1, 400, 2, 501).due(1, "sponsor", 1).signed(0).due(2, "offer").due(0, "block", 20);
        r.due(900, "funds", 0).due(81, "funds", 1).due(2, "funds", 2).due(20, "paid");
    }

    private static void whatThePayerGetsBack() {
        Run all = new Run("The PAYER gets back THE STAKE less PRICE times the UNITS used: nothing").accounts(400, 0);
        all.drafted(0, 0, 10, 40, 1, 0, 1, 0, 1, 0, 1, 0).signed(0).due(0, "offer").due(1, "block", 40).due(0, "funds", 0).due(400, "paid");
        Run most = new Run("The PAYER gets back THE STAKE less PRICE times the UNITS used").accounts(1_000_000_000L, 0);
        most.offered(0, 0, 0, 1000000, 1000, 1, 0).due(1, "block", 1000).due(990_000_000L, "funds", 0).due(10_000_000L, "paid");
        Run again = new Run("what came back pays for the next one").accounts(1000, 0).offered(0, 0, 0, 1, 1000, 1, 0).offered(1, 0, 1, 99, 10, 1, 0);
        again.due(2, "block", 1000).due(0, "funds", 0).due(1000, "paid");
    }

    private static void paidGrows() {
        Run r = new Run("PAID grows by PRICE times them").due(0, "paid").accounts(MOST, 0).offered(0, 0, 0, 7, 10, 1, 0).due(0, "paid");
        r.due(1, "block", 10).due(70, "paid").drafted(0, 1, 0, 10, 1, MOST).signed(0).due(1, "offer").due(0, "block", 10).due(70, "paid");
        r.drafted(0, 2, 7, 10, 1, MOST).signed(0).due(2, "offer").due(0, "block", 10).due(140, "paid");
        r.drafted(0, 3, 7, 10, 1, 0).due(1, "until", 3).signed(0).due(3, "offer").due(0, "block", 10).event(0, 3, 2, 0).due(140, "paid");
    }

    private static void paidIsMoreThanAnInt() {
        Run r = new Run("PAID, in all").accounts(MOST);
        for (int k = 0; k < 56; k++) {
            r.drafted(0, k, 1000000, 40, 0, 0, 0, 0, 0, 0, 0, 0);
            r.due(k, "sign", 0, Run.digestOf(0, k, 1000000, 40, 1000000, 0, -1, 0, 0, 0, 0, 0, 0, 0, 0)).due(1, "add", k).due(k, "offer");
            if (k % 24 == 23) {
                r.due(24, "block", 10000);
            }
        }
        r.due(8, "block", 10000).due(56 * 40_000_000L, "paid").due(MOST - 56 * 40_000_000L, "funds", 0).due(56, "next", 0);
    }

    private static void doneOnesAreCounted() {
        Run r = new Run("how many CALLS were DONE").accounts(1000, 1000, 1000, 20).due(0, "block", 10000);
        r.offered(0, 0, 0, 9, 10, 1, 5).offered(1, 1, 0, 8, 10, 0, 2000).offered(2, 3, 0, 2, 10, 0, 0).offered(3, 3, 1, 2, 10, 0, 0);
        between(r, 4, 2, 0, 7, 0, 1);
        r.offered(5, 2, 1, 7, 10, 0, 0).due(2, "block", 10000).told(4, 6, 1, 6, 5, 2);
        r.event(4, 4, 2, 0).event(3, 0, 0, 10).event(2, 1, 1, 10).event(1, 2, 0, 10).event(0, 3, 5, 0);
    }

    private static void eventsAreEmptyAtFirst() {
        Run r = new Run("EVENTS, none yet").due(0, "told", 4).due(BAD, "event", 0, 0).due(BAD, "event", 0, 1).due(BAD, "event", -1, 0);
        r.accounts(MOST).offered(0, 0, 0, 5, 10, 0, 0).due(BAD, "event", 0, 0).due(-17, "offer").due(BAD, "event", 0, 0);
        r.due(0, "block", 0).due(BAD, "event", 0, 0).due(1, "block", 10).event(0, 0, 0, 10).due(BAD, "event", 1, 0);
    }

    private static void eventsOfEachKind() {
        Run r = new Run("0 DONE, 1 FAILED, 2 ENDED, 3 REPLACED, 4 PUSHED, 5 POOR").accounts(2000, 110);
        r.offered(0, 0, 1, 1, 10, 1, 0).offered(1, 0, 1, 2, 10, 1, 0).event(0, 0, 3, 0).due(1, "told", 4);
        between(r, 2, 0, 30, 3, 0, 0);
        r.row(3, 0, 31, 20, 3).offered(23, 1, 0, 10, 10, 1, 1).offered(24, 1, 1, 11, 10, 1, 0).due(24, "told", 2);
        r.offered(25, 0, 0, 4, 10, 1, MOST).event(0, 1, 4, 0).due(2, "told", 4);
        r.due(1, "block", 10000).due(6, "told", 4).event(3, 2, 2, 0).event(2, 23, 0, 10).event(1, 24, 5, 0).event(0, 25, 1, 10);
        r.event(4, 1, 4, 0).event(5, 0, 3, 0).due(BAD, "event", 6, 0).due(10, "funds", 1).due(1960, "funds", 0);
        r.due(BAD, "event", 0, 3).due(BAD, "event", 0, -1).due(BAD, "event", 5, MIN).due(BAD, "event", 5, MAX);
        r.due(BAD, "event", MIN, 0).due(BAD, "event", MAX, 0).due(BAD, "event", -1, 2);
    }

    private static void eventsAreSixty() {
        Run r = new Run("EVENTS, the latest 60").accounts(MOST);
        for (int k = 0; k <= 75; k++) {
            // Each replaces the one before it.
            r.drafted(0, 3, k, 10, 0, 0);
            r.due(k, "sign", 0, Run.digestOf(0, 3, k, 10, 1000000, 0, -1, 0, 0)).due(1, "add", k).due(k, "offer");
            if (k >= 58 && k <= 62) {
                r.due(k, "told", 4).due(k - 1, "event", 0, 0).due(Math.max(k - 60, 0), "event", Math.min(k, 60) - 1, 0);
                r.due(BAD, "event", Math.min(k, 60), 0);
            }
        }
        r.due(75, "told", 4).due(BAD, "event", 60, 0).due(BAD, "event", 74, 0).due(BAD, "event", -1, 0);
        for (int i = 0; i < 60; i++) {
            r.due(74 - i, "event", i, 0);
        }
        r.event(59, 15, 3, 0);
        Run twice = new Run("EVENTS, the latest 60, as they come").accounts(MOST, 0);
        for (int k = 0; k < 72; k++) {
            // Every third one is done, every third fails, every third is ended.
            int number = k / 3 * 2 + k % 3;
            twice.due(1, "draft", 0, k % 3 == 2 ? 900 : number, 1, 10).due(1, "act", 1, k % 3 == 1 ? MOST : k);
            long end = 1000000;
            if (k % 3 == 2) {
                end = k / 3;
                twice.due(1, "until", end);
            }
            long digest = Run.digestOf(0, k % 3 == 2 ? 900 : number, 1, 10, end, 0, -1, 1, k % 3 == 1 ? MOST : k);
            twice.due(k, "sign", 0, digest).due(1, "add", k).due(k, "offer");
            if (k % 3 == 2) {
                twice.due(1, "block", 10000);
            }
        }
        twice.due(72, "told", 4).event(0, 70, 1, 10).event(1, 69, 0, 10).event(2, 71, 2, 0).event(57, 13, 1, 10).event(59, 14, 2, 0);
        twice.due(BAD, "event", 60, 0).due(480, "paid").due(48, "next", 0);
    }
}
