import java.util.Random;

/**
 * Rule 7 of ../shared/LANGUAGE.md: no call throws, for any arguments in any state. What an object answers after its
 * 512th call is free, so only the calls up to it have answers that are due here; a throw ends the test.
 */
public final class NeverThrowsTest {
    private static final int RUNS = 40;
    private static final int TURNS = 25_000;
    /** A turn is eight calls at most. */
    private static final int TURNS_LOOKED_AT = 60;
    private static final int[] EDGES = {
        Integer.MIN_VALUE, Integer.MIN_VALUE + 1, -1000001, -65536, -61, -25, -13, -3, -2, -1, 0, 1, 2, 3, 4, 5, 6, 9, 10, 11, 12, 13,
        15, 16, 23, 24, 25, 59, 60, 61, 199, 200, 201, 999, 1000, 1001, 9999, 10000, 10001, 65535, 65536, 1000000, 1000001,
        Integer.MAX_VALUE - 1, Integer.MAX_VALUE,
    };
    private static final long[] LONG_EDGES = {
        Long.MIN_VALUE, Long.MIN_VALUE + 1, Integer.MIN_VALUE, -1, 0, 1, 5, Integer.MAX_VALUE, 1L << 32, 999999999999L, 1000000000000L,
        1000000000001L, Long.MAX_VALUE - 1, Long.MAX_VALUE,
    };

    private final Random draw;
    private final SignedCalls x = new SignedCalls();

    private NeverThrowsTest(long seed) {
        draw = new Random(seed);
    }

    public static void main(String[] args) {
        everyEdgeOnANewObject();
        moreThanEachRowHolds();
        for (int seed = 0; seed < RUNS; seed++) {
            new NeverThrowsTest(seed).anyRun();
        }
        aThousandNumbers();
        Due.end();
    }

    private static void everyEdgeOnANewObject() {
        for (int a : EDGES) {
            for (int b : EDGES) {
                SignedCalls x = new SignedCalls();
                Due.is("lock", x.lock(a, b, a), -1);
                Due.is("funds", x.funds(a), -1);
                Due.is("next", x.next(a), -1);
                Due.is("draft", x.draft(a, b, a, b), -1);
                Due.is("act", x.act(a, b), -1);
                Due.is("add", x.add(a), -1);
                Due.is("waiting", x.waiting(a, b), -1);
                Due.is("event", x.event(a, b), -1);
                Due.is("told", x.told(a), a >= 0 && a <= 5 ? 0 : -1);
                Due.is("until", x.until(a), a >= 0 && a <= 1000000 ? -2 : -1);
                Due.is("from", x.from(b), b >= 0 && b <= 1000000 ? -2 : -1);
                Due.is("sponsor", x.sponsor(a), a == -1 ? -2 : -1);
                Due.is("block", x.block(a), a >= 0 && a <= 10000 ? 0 : -1);
            }
        }
    }

    private static void moreThanEachRowHolds() {
        SignedCalls x = new SignedCalls();
        for (int k = 0; k < 15; k++) {
            Due.is("account", x.account(1000000000000L, 1, 1), k < 12 ? k : -3);
        }
        // Numbers from the last to the first, so that each is dearer than those that wait; all have one digest.
        for (int k = 0; k < 28; k++) {
            x.draft(0, 30 - k, 31 * (k + 1), 10);
            x.act(0, 1);
            x.add(k == 0 ? x.sign(0, x.digest()) : 0);
            Due.is("offer", x.offer(), k);
            Due.is("told(2)", x.told(2), Math.min(k + 1, 24));
        }
        for (int k = 2; k < 8; k++) {
            Due.is("act", x.act(0, 1), k <= 4 ? k : -3);
        }
        for (int k = 2; k < 16; k++) {
            Due.is("add", x.add(0), k <= 12 ? k : -3);
        }
        for (int k = 1; k < 204; k++) {
            Due.is("sign", x.sign(0, k), k < 200 ? k : -3);
        }
        Due.is("offer", x.offer(), -14);
    }

    private void anyRun() {
        for (int k = 0; k < TURNS; k++) {
            anyTurn();
            if (k == TURNS_LOOKED_AT) {
                Due.holds("a run has accounts, signatures and tickets", x.told(0) > 0 && x.told(1) > 0 && x.told(3) > 0);
            }
        }
    }

    private int any() {
        return switch (draw.nextInt(3)) {
            case 0 -> EDGES[draw.nextInt(EDGES.length)];
            case 1 -> draw.nextInt(20);
            default -> draw.nextInt(4);
        };
    }

    private long anyLong() {
        return draw.nextBoolean() ? LONG_EDGES[draw.nextInt(LONG_EDGES.length)] : draw.nextInt(100);
    }

    private void anyTurn() {
        switch (draw.nextInt(24)) {
            case 0 -> x.account(anyLong(), any(), any());
            case 1 -> x.lock(any(), any(), any());
            case 2 -> x.funds(any());
            case 3 -> x.next(any());
            case 4 -> x.sign(any(), anyLong());
            case 5 -> x.draft(any(), any(), any(), any());
            case 6 -> x.until(any());
            case 7 -> x.from(any());
            case 8 -> x.sponsor(any());
            case 9 -> x.act(any(), anyLong());
            case 10 -> x.add(any());
            case 11 -> x.digest();
            case 12 -> x.offer();
            case 13 -> x.step(any());
            case 14 -> x.block(any());
            case 15 -> x.waiting(any(), any());
            case 16 -> x.event(any(), any());
            case 17 -> x.paid();
            case 18 -> x.told(any());
            default -> offerAny();
        }
    }

    private void offerAny() {
        x.account(1000000000000L, 1, 1);
        x.lock(draw.nextInt(12), 1, 1);
        x.draft(draw.nextInt(12), draw.nextInt(40), draw.nextInt(1000), 10 + draw.nextInt(30));
        x.act(draw.nextInt(12), draw.nextInt(1000));
        x.add(x.sign(0, x.digest()));
        x.offer();
    }

    /**
     * A number of one more and a price of 31 less give the same digest, so one signature serves an account for all of its
     * numbers, and every one of them is done: the longest row of events and tickets that an object can come to.
     */
    private static void aThousandNumbers() {
        SignedCalls x = new SignedCalls();
        Due.is("account", x.account(1000000000000L, 1, 1), 0);
        for (int number = 0; number < 1000; number++) {
            x.draft(0, number, 31 * (999 - number), 10);
            x.act(0, 1);
            if (number == 0) {
                Due.is("sign", x.sign(0, x.digest()), 0);
            }
            x.add(0);
            int ticket = x.offer();
            int done = x.block(10);
            // Four calls and a block for each number: what later ones answer is free.
            if (number < 100) {
                Due.is("offer", ticket, number);
                Due.is("block", done, 1);
            }
        }
        for (int i = -1; i <= 60; i++) {
            x.event(i, 0);
        }
        x.draft(0, 1000, 0, 10);
        x.offer();
        x.block(10000);
        x.next(0);
    }
}
