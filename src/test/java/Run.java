import java.util.ArrayList;
import java.util.Arrays;
import java.util.List;

/**
 * One new object and the calls made on it, for a sentence of the document. Calls go by their names, so that tables
 * can hold them; a run that goes wrong is told whole; none is longer than the document lets an object be used.
 */
final class Run {
    private static final int MOST_CALLS = 512;

    private final String sentence;
    private final SignedCalls x = new SignedCalls();
    private final List<String> calls = new ArrayList<>();
    private boolean isTold = false;

    Run(String sentence) {
        this.sentence = sentence;
    }

    /** What the document's digest is over a row of numbers, for runs that have no calls to spare. */
    static long digestOf(long... numbers) {
        long h = 17;
        for (long n : numbers) {
            h = 31 * h + n;
        }
        return h;
    }

    long call(String name, long... a) {
        if (calls.size() >= MOST_CALLS) {
            throw new IllegalStateException("a call too many: " + sentence);
        }
        long answer = answerOf(name, a);
        calls.add(told(name, a) + ": " + answer);
        return answer;
    }

    private static String told(String name, long... a) {
        String row = Arrays.toString(a);
        return name + "(" + row.substring(1, row.length() - 1) + ")";
    }

    private long answerOf(String name, long... a) {
        return switch (name) {
            case "account" -> x.account(a[0], whole(a[1]), whole(a[2]));
            case "lock" -> x.lock(whole(a[0]), whole(a[1]), whole(a[2]));
            case "funds" -> x.funds(whole(a[0]));
            case "next" -> x.next(whole(a[0]));
            case "sign" -> x.sign(whole(a[0]), a[1]);
            case "draft" -> x.draft(whole(a[0]), whole(a[1]), whole(a[2]), whole(a[3]));
            case "until" -> x.until(whole(a[0]));
            case "from" -> x.from(whole(a[0]));
            case "sponsor" -> x.sponsor(whole(a[0]));
            case "act" -> x.act(whole(a[0]), a[1]);
            case "add" -> x.add(whole(a[0]));
            case "digest" -> x.digest();
            case "offer" -> x.offer();
            case "step" -> x.step(whole(a[0]));
            case "block" -> x.block(whole(a[0]));
            case "waiting" -> x.waiting(whole(a[0]), whole(a[1]));
            case "event" -> x.event(whole(a[0]), whole(a[1]));
            case "paid" -> x.paid();
            case "told" -> x.told(whole(a[0]));
            default -> throw new IllegalArgumentException(name);
        };
    }

    private static int whole(long n) {
        return Math.toIntExact(n);
    }

    Run due(long want, String name, long... a) {
        long got = call(name, a);
        Due.is(sentence + ": " + told(name, a), got, want);
        if (got != want && !isTold) {
            isTold = true;
            System.out.println("  on a new object: " + calls);
        }
        return this;
    }

    /** One account after another, each with one key: account k has key k. */
    Run accounts(long... funds) {
        for (int k = 0; k < funds.length; k++) {
            due(k, "account", funds[k], 1 << k, 1);
        }
        return this;
    }

    /** A draft with acts: accounts and amounts in turn. */
    Run drafted(int owner, int number, int price, int limit, long... acts) {
        due(1, "draft", owner, number, price, limit);
        for (int k = 0; k < acts.length; k += 2) {
            due(k / 2 + 1, "act", acts[k], acts[k + 1]);
        }
        return this;
    }

    /** Signatures of these keys for the draft as it is now. */
    Run signed(int... keys) {
        long digest = call("digest");
        for (int key : keys) {
            long signature = call("sign", key, digest);
            Due.holds(sentence + ": a signature of key " + key, signature >= 0);
            Due.holds(sentence + ": it is added", call("add", signature) >= 1);
        }
        return this;
    }

    /** A call with these acts, of an owner whose key is its number, drafted, signed and offered. */
    Run offered(long want, int owner, int number, int price, int limit, long... acts) {
        return drafted(owner, number, price, limit, acts).signed(owner).due(want, "offer");
    }

    /** Those of an owner that wait: so many, of one price, from a number on, with an act that gives nothing. */
    Run row(long ticket, int owner, int number, int howMany, int price) {
        for (int k = 0; k < howMany; k++) {
            offered(ticket + k, owner, number + k, price, 10, owner, 0);
        }
        return this;
    }

    Run event(int i, int ticket, int why, int units) {
        return due(ticket, "event", i, 0).due(why, "event", i, 1).due(units, "event", i, 2);
    }

    Run waits(int i, int ticket, int owner, int number, int price) {
        return due(ticket, "waiting", i, 0).due(owner, "waiting", i, 1).due(number, "waiting", i, 2).due(price, "waiting", i, 3);
    }

    Run told(int accounts, int signatures, int waiting, int tickets, int events, int height) {
        int[] want = {accounts, signatures, waiting, tickets, events, height};
        for (int what = 0; what < want.length; what++) {
            due(want[what], "told", what);
        }
        return this;
    }

    /** Everything that calls which change nothing can tell. */
    List<Long> look() {
        List<Long> seen = new ArrayList<>();
        for (int what = 0; what < 6; what++) {
            seen.add(call("told", what));
        }
        seen.add(call("paid"));
        seen.add(call("digest"));
        for (int account = 0; account < seen.get(0); account++) {
            seen.add(call("funds", account));
            seen.add(call("next", account));
        }
        for (int i = 0; i < 4 * seen.get(2); i++) {
            seen.add(call("waiting", i / 4, i % 4));
        }
        for (int i = 0; i < 3 * Math.min(seen.get(4), 60); i++) {
            seen.add(call("event", i / 3, i % 3));
        }
        return seen;
    }

    List<String> calls() {
        return calls;
    }
}
