import java.math.BigInteger;
import java.util.ArrayList;
import java.util.Comparator;
import java.util.HashSet;
import java.util.List;
import java.util.Optional;
import java.util.Set;

/** The document written down a second time, as plainly as the library allows, to be held against the class. */
final class Model {
    record Act(int account, long amount) {
    }

    record Signature(int key, long digest) {
    }

    record Event(int ticket, int why, int units) {
    }

    static final class Account {
        long funds;
        int next;
        int keys;
        int threshold;
    }

    static final class Call {
        int owner;
        int number;
        int price;
        int limit;
        int end = 1000000;
        int start = 0;
        int sponsor = -1;
        int ticket;
        List<Act> acts = new ArrayList<>();
        List<Signature> signatures = new ArrayList<>();

        Call copy(int itsTicket) {
            Call c = new Call();
            c.owner = owner;
            c.number = number;
            c.price = price;
            c.limit = limit;
            c.end = end;
            c.start = start;
            c.sponsor = sponsor;
            c.acts = List.copyOf(acts);
            c.ticket = itsTicket;
            return c;
        }

        long stake() {
            return (long) price * limit;
        }

        int payer() {
            return sponsor >= 0 ? sponsor : owner;
        }

        long digest() {
            List<Long> row = new ArrayList<>(List.of((long) owner, (long) number, (long) price, (long) limit, (long) end, (long) start, (long) sponsor));
            for (Act a : acts) {
                row.add((long) a.account);
                row.add(a.amount);
            }
            BigInteger h = BigInteger.valueOf(17);
            for (long n : row) {
                h = h.multiply(BigInteger.valueOf(31)).add(BigInteger.valueOf(n));
            }
            return h.longValue();
        }
    }

    final List<Account> accounts = new ArrayList<>();
    final List<Signature> signatures = new ArrayList<>();
    final List<Event> events = new ArrayList<>();
    List<Call> waits = new ArrayList<>();
    Call draft = null;
    int step = 1;
    int height = 0;
    int tickets = 0;
    long paid = 0;

    private static boolean within(long n, long least, long most) {
        return least <= n && n <= most;
    }

    private boolean isAccount(int account) {
        return within(account, 0, accounts.size() - 1);
    }

    private static boolean isLock(int keys, int threshold) {
        return within(keys, 1, 65535) && within(threshold, 1, BigInteger.valueOf(keys).bitCount());
    }

    int account(long funds, int keys, int threshold) {
        if (!within(funds, 0, 1000000000000L) || !isLock(keys, threshold)) return -1;
        if (accounts.size() == 12) return -3;
        Account a = new Account();
        a.funds = funds;
        a.keys = keys;
        a.threshold = threshold;
        accounts.add(a);
        return accounts.size() - 1;
    }

    int lock(int account, int keys, int threshold) {
        if (!isAccount(account) || !isLock(keys, threshold)) return -1;
        accounts.get(account).keys = keys;
        accounts.get(account).threshold = threshold;
        return 1;
    }

    long funds(int account) {
        return isAccount(account) ? accounts.get(account).funds : -1;
    }

    int next(int account) {
        return isAccount(account) ? accounts.get(account).next : -1;
    }

    int sign(int key, long digest) {
        if (!within(key, 0, 15)) return -1;
        if (signatures.size() == 200) return -3;
        signatures.add(new Signature(key, digest));
        return signatures.size() - 1;
    }

    int draft(int owner, int number, int price, int limit) {
        if (!isAccount(owner) || !within(number, 0, 999) || !within(price, 0, 1000000) || !within(limit, 10, 1000)) return -1;
        draft = new Call();
        draft.owner = owner;
        draft.number = number;
        draft.price = price;
        draft.limit = limit;
        return 1;
    }

    int until(int h) {
        if (!within(h, 0, 1000000)) return -1;
        if (draft == null) return -2;
        draft.end = h;
        return 1;
    }

    int from(int h) {
        if (!within(h, 0, 1000000)) return -1;
        if (draft == null) return -2;
        draft.start = h;
        return 1;
    }

    int sponsor(int account) {
        if (account != -1 && !isAccount(account)) return -1;
        if (draft == null) return -2;
        draft.sponsor = account;
        return 1;
    }

    int act(int account, long amount) {
        if (!isAccount(account) || !within(amount, 0, 1000000000000L)) return -1;
        if (draft == null) return -2;
        if (draft.acts.size() == 4) return -3;
        draft.acts.add(new Act(account, amount));
        return draft.acts.size();
    }

    int add(int signature) {
        if (!within(signature, 0, signatures.size() - 1)) return -1;
        if (draft == null) return -2;
        if (draft.signatures.size() == 12) return -3;
        draft.signatures.add(signatures.get(signature));
        return draft.signatures.size();
    }

    long digest() {
        return draft == null ? 0 : draft.digest();
    }

    private boolean met(int account) {
        Set<Integer> keys = new HashSet<>();
        for (Signature s : draft.signatures) {
            if (s.digest == draft.digest() && (accounts.get(account).keys >> s.key) % 2 == 1) keys.add(s.key);
        }
        return keys.size() >= accounts.get(account).threshold;
    }

    int offer() {
        if (draft == null) return -2;
        if (draft.acts.isEmpty()) return -11;
        if (draft.end < height) return -12;
        if (draft.number < accounts.get(draft.owner).next) return -13;
        if (!met(draft.owner)) return -14;
        if (draft.sponsor >= 0 && !met(draft.sponsor)) return -15;
        if (accounts.get(draft.payer()).funds < draft.stake()) return -16;
        Optional<Call> same = waits.stream().filter(c -> c.owner == draft.owner && c.number == draft.number).findAny();
        if (same.isPresent() && draft.price < same.get().price + step) return -17;
        Optional<Call> least = waits.stream().min(Comparator.comparingInt((Call c) -> c.price).thenComparingInt(c -> -c.ticket));
        boolean crowded = same.isEmpty() && waits.size() == 24;
        if (crowded && draft.price <= least.get().price) return -18;
        if (same.isPresent()) gone(same.get(), 3, 0);
        if (crowded) gone(least.get(), 4, 0);
        waits.add(draft.copy(tickets));
        return tickets++;
    }

    private void gone(Call call, int why, int units) {
        waits.remove(call);
        events.add(new Event(call.ticket, why, units));
    }

    int step(int n) {
        if (!within(n, 1, 1000)) return -1;
        int was = step;
        step = n;
        return was;
    }

    int block(int room) {
        if (!within(room, 0, 10000)) return -1;
        height++;
        for (Call c : List.copyOf(waits)) {
            if (c.end < height) gone(c, 2, 0);
        }
        int left = room;
        int done = 0;
        while (true) {
            int l = left;
            Optional<Call> best = waits.stream()
                .filter(c -> c.number == accounts.get(c.owner).next && c.start <= height && c.limit <= l)
                .min(Comparator.comparingInt((Call c) -> -c.price).thenComparingInt(c -> c.ticket));
            if (best.isEmpty()) return done;
            int units = taken(best.get());
            left -= units;
            if (events.get(events.size() - 1).why == 0) done++;
        }
    }

    private int taken(Call c) {
        Account payer = accounts.get(c.payer());
        Account owner = accounts.get(c.owner);
        if (payer.funds < c.stake()) {
            gone(c, 5, 0);
            return 0;
        }
        payer.funds -= c.stake();
        owner.next++;
        long[] before = accounts.stream().mapToLong(a -> a.funds).toArray();
        int units = 0;
        boolean fails = false;
        for (Act a : c.acts) {
            fails = units + 10 > c.limit;
            if (fails) break;
            units += 10;
            fails = owner.funds < a.amount;
            if (fails) break;
            owner.funds -= a.amount;
            accounts.get(a.account).funds += a.amount;
        }
        for (int k = 0; fails && k < before.length; k++) {
            accounts.get(k).funds = before[k];
        }
        gone(c, fails ? 1 : 0, units);
        payer.funds += c.stake() - (long) c.price * units;
        paid += (long) c.price * units;
        return units;
    }

    int waiting(int i, int what) {
        if (!within(i, 0, waits.size() - 1) || !within(what, 0, 3)) return -1;
        Call c = waits.stream().sorted(Comparator.comparingInt(w -> w.ticket)).skip(i).findFirst().get();
        return List.of(c.ticket, c.owner, c.number, c.price).get(what);
    }

    int event(int i, int what) {
        if (!within(i, 0, Math.min(60, events.size()) - 1) || !within(what, 0, 2)) return -1;
        Event e = events.get(events.size() - 1 - i);
        return List.of(e.ticket, e.why, e.units).get(what);
    }

    long paid() {
        return paid;
    }

    int told(int what) {
        if (!within(what, 0, 5)) return -1;
        return List.of(accounts.size(), signatures.size(), waits.size(), tickets, events.size(), height).get(what);
    }
}
