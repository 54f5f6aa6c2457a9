/** Promises 16, 18 and 19: block, event, paid. */
public final class BlockTest {
    private static final int BAD = SignedCalls.BAD;
    private static final int MIN = Integer.MIN_VALUE, MAX = Integer.MAX_VALUE;

    public static void main(String[] args) {
        aCallIsDone();
        blockRefuses();
        theDearestFirst();
        numbersInARow();
        gapsWait();
        aWholeRowInOneBlock();
        roomIsTheLimitsThenTheUnits();
        theRoomsEdges();
        callsThatEnd();
        callsThatBeginLater();
        poorOnes();
        poorOnesLeaveNumberAndRoom();
        failsForTheAmount();
        failsForTheUnits();
        actsUseWhatEarlierOnesBrought();
        aSponsorPays();
        anActToItself();
        greatNumbers();
        theLatestSixty();
        Due.end();
    }

    private static void aCallIsDone() {
        SignedCalls x = Due.withAccounts(1000, 50, 7);
        Due.drafted(x, 0, 0, 3, 40);
        Due.actsOf(x, 1, 100, 2, 30);
        Due.signedBy(x, 0);
        Due.is("offer()", x.offer(), 0);
        Due.is("block(40)", x.block(40), 1);
        Due.is("funds(0)", x.funds(0), 1000 - 130 - 60);
        Due.is("funds(1)", x.funds(1), 150);
        Due.is("funds(2)", x.funds(2), 37);
        Due.is("next(0)", x.next(0), 1);
        Due.is("next(1)", x.next(1), 0);
        Due.is("paid()", x.paid(), 60);
        Due.event(x, 0, 0, 0, 20);
        Due.is("event(1, 0)", x.event(1, 0), BAD);
        Due.told(x, 3, 1, 0, 1, 1, 1);
        Due.is("waiting(0, 0)", x.waiting(0, 0), BAD);
        Due.is("block(40)", x.block(40), 0);
        Due.told(x, 3, 1, 0, 1, 1, 2);
        Due.is("paid()", x.paid(), 60);
    }

    private static void blockRefuses() {
        SignedCalls x = Due.withAccounts(1000);
        Due.offered(x, 0, 0, 1, 10, 0, 0);
        int[] bad = {-1, 10001, MIN, MAX};
        for (int room : bad) {
            Due.is("block(" + room + ")", x.block(room), BAD);
        }
        Due.told(x, 1, 1, 1, 1, 0, 0);
        Due.is("block(0)", x.block(0), 0);
        Due.told(x, 1, 1, 1, 1, 0, 1);
        Due.is("block(10000)", x.block(10000), 1);
        Due.told(x, 1, 1, 0, 1, 1, 2);
    }

    private static void theDearestFirst() {
        SignedCalls x = Due.withAccounts(1000, 1000, 1000, 1000, 1000);
        int[] prices = {5, 9, 5, 9, 7};
        for (int k = 0; k < 5; k++) {
            Due.is("offer", Due.offered(x, k, 0, prices[k], 10, k, 0), k);
        }
        Due.is("block(100)", x.block(100), 5);
        int[] order = {1, 3, 4, 0, 2};
        for (int k = 0; k < 5; k++) {
            Due.event(x, 4 - k, order[k], 0, 10);
        }
        Due.is("paid()", x.paid(), 350);
    }

    private static void numbersInARow() {
        SignedCalls x = Due.withAccounts(1000, 1000);
        Due.offered(x, 0, 2, 9, 10, 1, 1);
        Due.offered(x, 0, 1, 8, 10, 1, 1);
        Due.offered(x, 0, 0, 1, 10, 1, 1);
        Due.offered(x, 1, 0, 5, 10, 0, 1);
        Due.is("block(1000)", x.block(1000), 4);
        Due.event(x, 3, 3, 0, 10);
        Due.event(x, 2, 2, 0, 10);
        Due.event(x, 1, 1, 0, 10);
        Due.event(x, 0, 0, 0, 10);
        Due.is("next(0)", x.next(0), 3);
        Due.is("next(1)", x.next(1), 1);
        Due.is("paid()", x.paid(), 230);
    }

    private static void gapsWait() {
        SignedCalls x = Due.withAccounts(1000);
        Due.offered(x, 0, 0, 1, 10, 0, 1);
        Due.offered(x, 0, 2, 9, 10, 0, 1);
        Due.is("block", x.block(1000), 1);
        Due.is("block", x.block(1000), 0);
        Due.is("next(0)", x.next(0), 1);
        Due.waits(x, 0, 1, 0, 2, 9);
        Due.offered(x, 0, 1, 1, 10, 0, 1);
        Due.is("block", x.block(1000), 2);
        Due.event(x, 1, 2, 0, 10);
        Due.event(x, 0, 1, 0, 10);
        Due.is("next(0)", x.next(0), 3);
    }

    private static void aWholeRowInOneBlock() {
        SignedCalls x = Due.withAccounts(10000, 10000);
        for (int k = 0; k < 24; k++) {
            Due.is("offer", Due.offered(x, k % 2, k / 2, 24 - k, 10, 0, 0), k);
        }
        Due.is("block(240)", x.block(240), 24);
        Due.told(x, 2, 24, 0, 24, 24, 1);
        Due.is("next(0)", x.next(0), 12);
        Due.is("next(1)", x.next(1), 12);
        Due.event(x, 23, 0, 0, 10);
        Due.event(x, 0, 23, 0, 10);
        Due.is("paid()", x.paid(), 3000);
        Due.is("places are free again", Due.offered(x, 0, 12, 1, 10, 0, 0), 24);
        Due.waits(x, 0, 24, 0, 12, 1);
    }

    private static void roomIsTheLimitsThenTheUnits() {
        SignedCalls x = Due.withAccounts(10000, 10000, 10000);
        Due.offered(x, 0, 0, 9, 100, 0, 0);
        Due.offered(x, 1, 0, 8, 95, 0, 0);
        Due.offered(x, 2, 0, 7, 90, 0, 0);
        Due.is("100 fits, 95 does not fit 90, 90 does", x.block(100), 2);
        Due.event(x, 1, 0, 0, 10);
        Due.event(x, 0, 2, 0, 10);
        Due.waits(x, 0, 1, 1, 0, 8);
        Due.is("funds(1)", x.funds(1), 10000);
        Due.is("paid()", x.paid(), 160);
        Due.is("block(94)", x.block(94), 0);
        Due.is("block(95)", x.block(95), 1);
        Due.is("paid()", x.paid(), 240);
    }

    private static void theRoomsEdges() {
        SignedCalls x = Due.withAccounts(10000, 10000);
        Due.offered(x, 0, 0, 9, 10, 0, 0);
        Due.offered(x, 0, 1, 9, 10, 0, 0);
        Due.offered(x, 0, 2, 9, 10, 0, 0);
        Due.is("block(9)", x.block(9), 0);
        Due.is("block(19)", x.block(19), 1);
        Due.is("block(20)", x.block(20), 2);
        Due.drafted(x, 1, 0, 1, 15);
        Due.actsOf(x, 1, 0, 1, 0);
        Due.signedBy(x, 1);
        x.offer();
        Due.offered(x, 0, 3, 0, 10, 0, 0);
        Due.is("a failed one uses room", x.block(19), 0);
        Due.event(x, 0, 3, 1, 10);
        Due.is("told(2)", x.told(2), 1);
        Due.is("block(10)", x.block(10), 1);
    }

    private static int offeredUntil(SignedCalls x, int owner, int number, int price, int from, int until) {
        Due.drafted(x, owner, number, price, 10);
        Due.actsOf(x, owner, 0);
        Due.is("until", x.until(until), 1);
        Due.is("from", x.from(from), 1);
        Due.signedBy(x, owner);
        return x.offer();
    }

    private static void callsThatEnd() {
        SignedCalls x = Due.withAccounts(1000, 1000);
        Due.is("offer", offeredUntil(x, 0, 3, 1, 0, 2), 0);
        Due.is("offer", offeredUntil(x, 1, 0, 1, 0, 1), 1);
        Due.is("offer", offeredUntil(x, 0, 0, 9, 0, 0), 2);
        Due.is("offer", offeredUntil(x, 0, 1, 9, 0, 0), 3);
        Due.is("offer", offeredUntil(x, 0, 2, 9, 0, 1), 4);
        Due.is("at its end it is still done", x.block(100), 1);
        Due.event(x, 2, 2, 2, 0);
        Due.event(x, 1, 3, 2, 0);
        Due.event(x, 0, 1, 0, 10);
        Due.told(x, 2, 5, 2, 5, 3, 1);
        Due.is("block(0)", x.block(0), 0);
        Due.event(x, 0, 4, 2, 0);
        Due.waits(x, 0, 0, 0, 3, 1);
        Due.is("block(0)", x.block(0), 0);
        Due.event(x, 0, 0, 2, 0);
        Due.told(x, 2, 5, 0, 5, 5, 3);
        Due.is("an ended one leaves its number", x.next(0), 0);
        Due.is("and costs nothing", x.funds(0), 1000);
        Due.is("paid()", x.paid(), 10);
    }

    private static void callsThatBeginLater() {
        SignedCalls x = Due.withAccounts(1000, 1000);
        Due.is("offer", offeredUntil(x, 0, 0, 9, 3, 1000000), 0);
        Due.is("offer", offeredUntil(x, 0, 1, 9, 0, 1000000), 1);
        Due.is("offer", offeredUntil(x, 1, 0, 1, 1, 1), 2);
        Due.is("height 1", x.block(100), 1);
        Due.event(x, 0, 2, 0, 10);
        Due.is("height 2", x.block(100), 0);
        Due.is("height 3", x.block(100), 2);
        Due.event(x, 1, 0, 0, 10);
        Due.event(x, 0, 1, 0, 10);
        Due.is("one that ends before it begins", offeredUntil(x, 0, 2, 9, 9, 4), 3);
        Due.is("height 4", x.block(100), 0);
        Due.is("height 5", x.block(100), 0);
        Due.event(x, 0, 3, 2, 0);
    }

    private static void poorOnes() {
        SignedCalls x = Due.withAccounts(100, 0);
        Due.is("offer", Due.offered(x, 0, 0, 5, 10, 1, 1), 0);
        Due.is("offer", Due.offered(x, 0, 1, 10, 10, 1, 1), 1);
        Due.is("the first is done, then 49 are left for 100", x.block(100), 1);
        Due.event(x, 1, 0, 0, 10);
        Due.event(x, 0, 1, 5, 0);
        Due.is("funds(0)", x.funds(0), 49);
        Due.is("next(0)", x.next(0), 1);
        Due.told(x, 2, 2, 0, 2, 2, 1);
        Due.is("paid()", x.paid(), 50);
        Due.is("its number is free", Due.offered(x, 0, 1, 4, 12, 0, 1), 2);
        Due.is("48 of 49", x.block(100), 1);
        Due.is("funds(0)", x.funds(0), 9);
    }

    private static void poorOnesLeaveNumberAndRoom() {
        SignedCalls x = Due.withAccounts(200, 100, 0);
        Due.is("offer", Due.offered(x, 0, 0, 9, 10, 2, 100), 0);
        Due.drafted(x, 1, 0, 8, 20);
        x.sponsor(0);
        Due.actsOf(x, 2, 1);
        Due.signedBy(x, 0, 1);
        Due.is("offer", x.offer(), 1);
        Due.is("offer", Due.offered(x, 2, 0, 0, 20, 2, 0), 2);
        Due.is("30 less 10, and 20 for the last", x.block(30), 2);
        Due.event(x, 2, 0, 0, 10);
        Due.event(x, 1, 1, 5, 0);
        Due.event(x, 0, 2, 0, 10);
        Due.is("next(1)", x.next(1), 0);
        Due.is("funds(0)", x.funds(0), 10);
        Due.is("funds(1)", x.funds(1), 100);
    }

    private static void failsForTheAmount() {
        SignedCalls x = Due.withAccounts(100, 5, 6);
        Due.drafted(x, 0, 0, 1, 50);
        Due.actsOf(x, 1, 30, 2, 20, 1, 1, 2, 40);
        Due.signedBy(x, 0);
        Due.is("offer()", x.offer(), 0);
        Due.is("block(50)", x.block(50), 0);
        Due.event(x, 0, 0, 1, 30);
        Due.is("funds(0)", x.funds(0), 70);
        Due.is("funds(1)", x.funds(1), 5);
        Due.is("funds(2)", x.funds(2), 6);
        Due.is("next(0)", x.next(0), 1);
        Due.is("paid()", x.paid(), 30);
        Due.told(x, 3, 1, 0, 1, 1, 1);
        Due.drafted(x, 0, 1, 1, 20);
        Due.actsOf(x, 1, 30, 2, 20);
        Due.signedBy(x, 0);
        Due.is("offer()", x.offer(), 1);
        Due.is("the stake and the amounts, just so", x.block(50), 1);
        Due.is("funds(0)", x.funds(0), 0);
        Due.is("funds(1)", x.funds(1), 35);
        Due.is("paid()", x.paid(), 50);
    }

    private static void failsForTheUnits() {
        SignedCalls x = Due.withAccounts(1000, 5);
        Due.drafted(x, 0, 0, 2, 29);
        Due.actsOf(x, 1, 1, 1, 2, 1, 3);
        Due.signedBy(x, 0);
        Due.is("offer()", x.offer(), 0);
        Due.is("block", x.block(100), 0);
        Due.event(x, 0, 0, 1, 20);
        Due.is("funds(0)", x.funds(0), 960);
        Due.is("funds(1)", x.funds(1), 5);
        Due.is("paid()", x.paid(), 40);
        Due.drafted(x, 0, 1, 2, 30);
        Due.actsOf(x, 1, 1, 1, 2, 1, 3);
        Due.signedBy(x, 0);
        Due.is("offer()", x.offer(), 1);
        Due.is("block", x.block(100), 1);
        Due.event(x, 0, 1, 0, 30);
        Due.is("funds(0)", x.funds(0), 960 - 60 - 6);
        Due.is("units are asked for ahead of the amount", Due.offered(x, 0, 2, 2, 10, 1, 5000), 2);
        x.block(100);
        Due.event(x, 0, 2, 1, 10);
        Due.drafted(x, 0, 3, 2, 10);
        Due.actsOf(x, 1, 1, 1, 5000);
        Due.signedBy(x, 0);
        x.offer();
        x.block(100);
        Due.event(x, 0, 3, 1, 10);
    }

    /** What one call brings an account, the account's own call of the same block can give. */
    private static void actsUseWhatEarlierOnesBrought() {
        SignedCalls x = Due.withAccounts(1000, 10, 0);
        Due.offered(x, 0, 0, 9, 10, 1, 500);
        Due.offered(x, 1, 0, 1, 10, 2, 450);
        Due.is("block", x.block(100), 2);
        Due.is("funds(0)", x.funds(0), 410);
        Due.is("funds(1)", x.funds(1), 50);
        Due.is("funds(2)", x.funds(2), 450);
    }

    private static void aSponsorPays() {
        SignedCalls x = Due.withAccounts(100, 500);
        Due.drafted(x, 0, 0, 10, 50);
        x.sponsor(1);
        Due.actsOf(x, 1, 40, 1, 60);
        Due.signedBy(x, 0, 1);
        Due.is("offer()", x.offer(), 0);
        Due.is("block", x.block(100), 1);
        Due.is("funds(0)", x.funds(0), 0);
        Due.is("funds(1)", x.funds(1), 400);
        Due.is("next(0)", x.next(0), 1);
        Due.is("next(1)", x.next(1), 0);
        Due.is("paid()", x.paid(), 200);
        Due.drafted(x, 0, 1, 10, 40);
        x.sponsor(1);
        Due.actsOf(x, 1, 0, 1, 1);
        Due.signedBy(x, 0, 1);
        Due.is("offer()", x.offer(), 1);
        Due.is("block", x.block(100), 0);
        Due.is("the sponsor pays for the failed one", x.funds(1), 200);
        Due.is("funds(0)", x.funds(0), 0);
        Due.is("paid()", x.paid(), 400);
    }

    private static void anActToItself() {
        SignedCalls x = Due.withAccounts(100);
        Due.offered(x, 0, 0, 1, 10, 0, 91);
        Due.is("it must have the amount", x.block(100), 0);
        Due.is("funds(0)", x.funds(0), 90);
        Due.offered(x, 0, 1, 1, 10, 0, 80);
        Due.is("it has it", x.block(100), 1);
        Due.is("funds(0)", x.funds(0), 80);
    }

    private static void greatNumbers() {
        long most = 1_000_000_000_000L;
        SignedCalls x = Due.withAccounts(most, most);
        Due.is("offer", Due.offered(x, 0, 0, 1000000, 1000, 1, most - 1_000_000_000L), 0);
        Due.is("block(1000)", x.block(1000), 1);
        Due.is("funds(0)", x.funds(0), 990_000_000L);
        Due.is("funds above 10^12", x.funds(1), 2 * most - 1_000_000_000L);
        Due.drafted(x, 1, 0, 1000000, 1000);
        Due.actsOf(x, 0, most, 0, 1, 0, 1, 0, 1);
        Due.signedBy(x, 1);
        Due.is("offer", x.offer(), 1);
        Due.is("block(1000)", x.block(1000), 1);
        Due.is("paid()", x.paid(), 50_000_000L);
        Due.is("funds(0)", x.funds(0), most + 990_000_003L);
        for (int number = 1; number <= 55; number++) {
            Due.offered(x, 0, number, 1000000, 10, 0, 0);
            x.block(10);
        }
        Due.is("paid()", x.paid(), 600_000_000L);
    }

    private static void theLatestSixty() {
        SignedCalls x = Due.withAccounts(100000);
        for (int k = 0; k < 64; k++) {
            // Each replaces the one before it.
            x.draft(0, 0, k, 10);
            x.act(0, 0);
            Due.is("add", x.add(x.sign(0, x.digest())), 1);
            Due.is("offer", x.offer(), k);
            if (k == 60) {
                Due.is("told(4)", x.told(4), 60);
                Due.event(x, 59, 0, 3, 0);
                Due.is("event(60, 0)", x.event(60, 0), BAD);
            }
            if (k == 61) {
                Due.event(x, 0, 60, 3, 0);
                Due.event(x, 1, 59, 3, 0);
                Due.event(x, 59, 1, 3, 0);
            }
        }
        Due.is("told(4)", x.told(4), 63);
        Due.event(x, 0, 62, 3, 0);
        Due.event(x, 1, 61, 3, 0);
        Due.event(x, 59, 3, 3, 0);
        int[] bad = {-1, 60, 61, 63, MIN, MAX};
        for (int i : bad) {
            Due.is("event(" + i + ", 0)", x.event(i, 0), BAD);
        }
        int[] badWhat = {-1, 3, 4, MIN, MAX};
        for (int what : badWhat) {
            Due.is("event(0, " + what + ")", x.event(0, what), BAD);
        }
        Due.is("block", x.block(10), 1);
        Due.event(x, 0, 63, 0, 10);
        Due.event(x, 59, 4, 3, 0);
        Due.is("told(4)", x.told(4), 64);
    }
}
