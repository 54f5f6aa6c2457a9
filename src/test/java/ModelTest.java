import java.util.ArrayList;
import java.util.List;
import java.util.Random;
import java.util.TreeMap;

/** All promises: long runs of calls, drawn from fixed seeds, on the class and on the model. */
public final class ModelTest {
    private static final int RUNS = 3000;
    private static final int MOST_CALLS = 512;
    private static final int CALLS_DRAWN = 420;

    private static final int[] EDGES = {
        Integer.MIN_VALUE, -65536, -2, -1, 0, 1, 2, 3, 5, 6, 9, 10, 11, 12, 15, 16, 17, 23, 24, 59, 60, 199, 200, 999,
        1000, 1001, 10000, 10001, 65535, 65536, 1000000, 1000001, Integer.MAX_VALUE,
    };
    private static final long[] LONG_EDGES = {
        Long.MIN_VALUE, -1, 0, 1, 1000000000000L, 1000000000001L, Long.MAX_VALUE,
    };

    /** How often each refusal of an offer, each why of an event and each FULL was met, over all runs. */
    private static final TreeMap<String, Integer> MET = new TreeMap<>();
    private static int wrongRuns = 0;

    private final Random draw;
    private final SignedCalls x = new SignedCalls();
    private final Model m = new Model();
    private final List<String> told = new ArrayList<>();
    private boolean wrong = false;

    /** A run that fills the row, one that has many events, one that has many signatures. */
    private final boolean crowd;
    private final boolean busy;
    private final boolean signing;
    private final int prices;
    private final long funds;

    private ModelTest(long seed) {
        draw = new Random(seed);
        int profile = draw.nextInt(10);
        crowd = profile < 4;
        busy = profile == 4 || profile == 5;
        signing = profile == 6;
        prices = new int[] {3, 10, 200}[draw.nextInt(3)];
        funds = busy ? 1000000000000L : new long[] {300, 5000, 1000000000000L}[draw.nextInt(3)];
    }

    public static void main(String[] args) {
        for (int seed = 0; seed < RUNS && wrongRuns < 3; seed++) {
            new ModelTest(seed).run(seed);
        }
        System.out.println(MET);
        String[] needed = {
            "offer -11", "offer -12", "offer -13", "offer -14", "offer -15", "offer -16", "offer -17", "offer -18",
            "why 0", "why 1", "why 2", "why 3", "why 4", "why 5", "account -3", "sign -3", "act -3", "add -3", "60 events",
        };
        for (String n : needed) {
            Due.holds("some run meets " + n, MET.getOrDefault(n, 0) >= 5);
        }
        Due.is("runs that are not as the model", wrongRuns, 0);
        Due.end();
    }

    private void run(int seed) {
        int first = 1 + draw.nextInt(6);
        for (int k = 0; k < first; k++) {
            openAccount();
        }
        for (int k = 0; signing && k < 180; k++) {
            same("sign(" + k % 16 + ", " + k + ")", x.sign(k % 16, k), m.sign(k % 16, k));
        }
        while (told.size() < CALLS_DRAWN && !wrong) {
            drawStep();
        }
        lookAtAll();
        for (Model.Event e : m.events) {
            meet("why " + e.why());
        }
        if (m.events.size() > 60) {
            meet("60 events");
        }
        if (wrong) {
            wrongRuns++;
            System.out.println("run " + seed + ", on a new object:");
            told.forEach(System.out::println);
        }
    }

    private void meet(String what) {
        MET.merge(what, 1, Integer::sum);
    }

    private void same(String call, long got, long want) {
        if (told.size() >= MOST_CALLS) {
            throw new IllegalStateException("a call too many");
        }
        told.add("  " + call + ": " + got + (got == want ? "" : ", due is " + want));
        wrong |= got != want;
    }

    private void openAccount() {
        int keys = busy ? 1 << draw.nextInt(16) : 1 + draw.nextInt(15);
        int threshold = 1 + draw.nextInt(Integer.bitCount(keys));
        openAccount((long) (draw.nextDouble() * funds), keys, threshold);
    }

    private void openAccount(long itsFunds, int keys, int threshold) {
        int got = x.account(itsFunds, keys, threshold);
        same("account(" + itsFunds + ", " + keys + ", " + threshold + ")", got, m.account(itsFunds, keys, threshold));
        if (got == -3) {
            meet("account -3");
        }
    }

    private void drawStep() {
        int kind = draw.nextInt(100);
        if (busy && kind < 82) {
            plainCall();
        } else if (busy && kind < 97) {
            same("block(10000)", x.block(10000), m.block(10000));
        } else if (kind < 60) {
            drawCall();
        } else if (kind < (crowd ? 62 : 75)) {
            int room = new int[] {0, 10, 25, 60, 100, 1000, 10000}[draw.nextInt(7)];
            same("block(" + room + ")", x.block(room), m.block(room));
        } else if (kind < 78) {
            openAccount();
        } else if (kind < 80) {
            int n = 1 + draw.nextInt(4);
            same("step(" + n + ")", x.step(n), m.step(n));
        } else if (kind < 82) {
            changeLock();
        } else if (kind < 93) {
            look();
        } else {
            anyCall();
        }
    }

    private int someAccount() {
        return draw.nextInt(Math.max(1, m.accounts.size()));
    }

    private void changeLock() {
        int account = someAccount();
        int keys = 1 + draw.nextInt(15);
        same("lock(" + account + ", " + keys + ", 1)", x.lock(account, keys, 1), m.lock(account, keys, 1));
    }

    private void drawCall() {
        int owner = someAccount();
        int number = Math.max(0, m.next(owner)) + (crowd ? draw.nextInt(30) : draw.nextInt(3) * draw.nextInt(2)) - (draw.nextInt(12) == 0 ? 1 : 0);
        int price = draw.nextInt(prices);
        int limit = 10 + draw.nextInt(35);
        same("draft(" + owner + ", " + number + ", " + price + ", " + limit + ")", x.draft(owner, number, price, limit), m.draft(owner, number, price, limit));
        if (m.draft == null) {
            return;
        }
        if (draw.nextInt(4) == 0) {
            int account = draw.nextInt(8) == 0 ? -1 : someAccount();
            same("sponsor(" + account + ")", x.sponsor(account), m.sponsor(account));
        }
        if (draw.nextInt(5) == 0) {
            int h = Math.max(0, m.height + draw.nextInt(5) - 1);
            same("until(" + h + ")", x.until(h), m.until(h));
        }
        if (draw.nextInt(5) == 0) {
            int h = m.height + draw.nextInt(4);
            same("from(" + h + ")", x.from(h), m.from(h));
        }
        drawActs();
        if (draw.nextInt(20) != 0) {
            drawSignatures();
        }
        if (draw.nextInt(25) == 0) {
            same("until(9)", x.until(9), m.until(9));
        }
        offer();
    }

    /** One act, one signature, none of what refuses an offer. */
    private void plainCall() {
        int owner = someAccount();
        int number = m.next(owner) + draw.nextInt(2);
        int price = draw.nextInt(prices) + draw.nextInt(2) * told.size();
        same("draft(" + owner + ", " + number + ", " + price + ", 10)", x.draft(owner, number, price, 10), m.draft(owner, number, price, 10));
        same("act(0, 1)", x.act(0, 1), m.act(0, 1));
        signAndAdd(Integer.numberOfTrailingZeros(m.accounts.get(owner).keys), m.digest());
        offer();
    }

    private void drawActs() {
        int acts = draw.nextInt(25) == 0 ? 0 : draw.nextInt(40) == 0 ? 5 : 1 + draw.nextInt(draw.nextInt(4) + 1);
        for (int k = 0; k < acts; k++) {
            int account = someAccount();
            long amount = (long) (draw.nextDouble() * draw.nextDouble() * Math.max(10, m.funds(m.draft.owner)));
            amount = draw.nextInt(10) == 0 ? Math.max(0, m.funds(m.draft.owner) - m.draft.stake() + draw.nextInt(2)) : amount;
            amount = Math.min(amount, 1000000000000L);
            int got = x.act(account, amount);
            same("act(" + account + ", " + amount + ")", got, m.act(account, amount));
            if (got == -3) {
                meet("act -3");
            }
        }
    }

    private void drawSignatures() {
        long digest = m.digest();
        if (!busy) {
            same("digest()", x.digest(), digest);
        }
        int keys = m.accounts.get(m.draft.owner).keys | (m.draft.sponsor >= 0 && draw.nextInt(4) != 0 ? m.accounts.get(m.draft.sponsor).keys : 0);
        for (int key = 0; key < 16; key++) {
            if ((keys >> key & 1) == 1 && draw.nextInt(12) != 0) {
                signAndAdd(key, draw.nextInt(30) == 0 ? digest + 1 : digest);
            }
        }
        for (int k = 0; draw.nextInt(60) == 0 && k < 13; k++) {
            addSignature(0);
        }
    }

    private void signAndAdd(int key, long digest) {
        int signature = x.sign(key, digest);
        same("sign(" + key + ", " + digest + ")", signature, m.sign(key, digest));
        if (signature == -3) {
            meet("sign -3");
        }
        addSignature(signature);
    }

    private void addSignature(int signature) {
        for (int times = draw.nextInt(80) == 0 ? 14 : 1; times > 0; times--) {
            int got = x.add(signature);
            same("add(" + signature + ")", got, m.add(signature));
            if (got == -3) {
                meet("add -3");
            }
        }
    }

    private void offer() {
        int got = x.offer();
        same("offer()", got, m.offer());
        if (got < 0) {
            meet("offer " + got);
        }
    }

    private void look() {
        int i = draw.nextInt(25);
        int what = draw.nextInt(5);
        switch (draw.nextInt(6)) {
            case 0 -> same("funds", x.funds(i % 13), m.funds(i % 13));
            case 1 -> same("next", x.next(i % 13), m.next(i % 13));
            case 2 -> same("waiting(" + i + ", " + what + ")", x.waiting(i, what), m.waiting(i, what));
            case 3 -> same("event(" + i + ", " + what + ")", x.event(i, what), m.event(i, what));
            case 4 -> same("told(" + what + ")", x.told(what), m.told(what));
            default -> same("paid()", x.paid(), m.paid());
        }
    }

    private int edge() {
        return EDGES[draw.nextInt(EDGES.length)];
    }

    private long longEdge() {
        return LONG_EDGES[draw.nextInt(LONG_EDGES.length)];
    }

    private int small() {
        return draw.nextInt(4) == 0 ? edge() : draw.nextInt(5);
    }

    private void anyCall() {
        int a = small();
        int b = small();
        int c = small();
        int d = edge();
        long l = longEdge();
        switch (draw.nextInt(19)) {
            case 0 -> openAccount(l, a, b);
            case 1 -> same("lock(" + a + ", " + b + ", " + c + ")", x.lock(a, b, c), m.lock(a, b, c));
            case 2 -> same("funds(" + a + ")", x.funds(a), m.funds(a));
            case 3 -> same("next(" + a + ")", x.next(a), m.next(a));
            case 4 -> same("sign(" + a + ", " + l + ")", x.sign(a, l), m.sign(a, l));
            case 5 -> same("draft(" + a + ", " + b + ", " + c + ", " + d + ")", x.draft(a, b, c, d), m.draft(a, b, c, d));
            case 6 -> same("until(" + d + ")", x.until(d), m.until(d));
            case 7 -> same("from(" + d + ")", x.from(d), m.from(d));
            case 8 -> same("sponsor(" + a + ")", x.sponsor(a), m.sponsor(a));
            case 9 -> same("act(" + a + ", " + l + ")", x.act(a, l), m.act(a, l));
            case 10 -> same("add(" + d + ")", x.add(d), m.add(d));
            case 11 -> same("digest()", x.digest(), m.digest());
            case 12 -> offer();
            case 13 -> same("step(" + d + ")", x.step(d), m.step(d));
            case 14 -> same("block(" + d + ")", x.block(d), m.block(d));
            case 15 -> same("waiting(" + d + ", " + a + ")", x.waiting(d, a), m.waiting(d, a));
            case 16 -> same("event(" + d + ", " + a + ")", x.event(d, a), m.event(d, a));
            case 17 -> same("told(" + d + ")", x.told(d), m.told(d));
            default -> same("paid()", x.paid(), m.paid());
        }
    }

    private boolean mayGoOn() {
        return told.size() < MOST_CALLS && !wrong;
    }

    private void lookAtAll() {
        same("paid()", x.paid(), m.paid());
        for (int what = 0; what < 6; what++) {
            same("told(" + what + ")", x.told(what), m.told(what));
        }
        for (int k = 0; k < m.accounts.size(); k++) {
            same("funds(" + k + ")", x.funds(k), m.funds(k));
            same("next(" + k + ")", x.next(k), m.next(k));
        }
        boolean eventsFirst = draw.nextBoolean();
        if (eventsFirst) {
            lookAtEvents();
        }
        for (int k = 0; k <= 24 * 4 && mayGoOn(); k++) {
            same("waiting(" + k / 4 + ", " + k % 4 + ")", x.waiting(k / 4, k % 4), m.waiting(k / 4, k % 4));
        }
        if (!eventsFirst) {
            lookAtEvents();
        }
    }

    private void lookAtEvents() {
        int skip = Math.max(0, draw.nextInt(61) - 30);
        for (int k = skip * 3; k <= 60 * 3 && mayGoOn(); k++) {
            same("event(" + k / 3 + ", " + k % 3 + ")", x.event(k / 3, k % 3), m.event(k / 3, k % 3));
        }
    }
}
