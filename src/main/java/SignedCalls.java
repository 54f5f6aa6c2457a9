/**
 * Calls that accounts sign and others may pay for; blocks do the dearest first, each whole or not at all.
 *
 * Every row is made by the constructors and used again, so that no call makes an object.
 * Numbers of accounts and signatures are tested where they come in; what is kept of them always fits.
 */
public final class SignedCalls {
    public static final int BAD = -1, NONE = -2, FULL = -3;

    private static final int MOST_ACCOUNTS = 12;
    private static final long MOST_AMOUNT = 1_000_000_000_000L;
    private static final int MOST_KEYS = 16;
    private static final int MOST_SIGNATURES = 200;

    private static final int MOST_NUMBER = 999;
    private static final int MOST_PRICE = 1_000_000;
    private static final int LEAST_LIMIT = 10;
    private static final int MOST_LIMIT = 1000;
    private static final int MOST_HEIGHT = 1_000_000;
    private static final int NO_SPONSOR = -1;
    private static final int MOST_ACTS = 4;
    private static final int UNITS_OF_AN_ACT = 10;

    private static final int MOST_ADDED = 12;
    private static final int MOST_WAITING = 24;
    private static final int MOST_STEP = 1000;
    private static final int MOST_ROOM = 10_000;
    private static final int EVENTS_KEPT = 60;

    private static final int NOT_FOUND = -1;

    private static final int NOT_REFUSED = 0;
    private static final int NO_ACT = 1;
    private static final int END_IS_OVER = 2;
    private static final int NUMBER_IS_USED = 3;
    private static final int OWNER_NOT_MET = 4;
    private static final int SPONSOR_NOT_MET = 5;
    private static final int STAKE_NOT_COVERED = 6;
    private static final int STEP_NOT_REACHED = 7;
    private static final int ROW_IS_DEARER = 8;
    private static final int REFUSED_BASE = -10;

    private static final int DONE = 0;
    private static final int FAILED = 1;
    private static final int ENDED = 2;
    private static final int REPLACED = 3;
    private static final int PUSHED = 4;
    private static final int POOR = 5;

    private final Accounts accounts = new Accounts();
    private final Signatures signatures = new Signatures();
    private final Draft draft = new Draft();
    private final WaitingRow row = new WaitingRow();
    private final EventLog log = new EventLog();
    private int priceStep = 1;
    private int height;
    private long paidInAll;

    public SignedCalls() {
    }

    public int account(long funds, int keys, int threshold) {
        if (!isAmount(funds) || !isLock(keys, threshold)) {
            return BAD;
        }
        if (accounts.count >= MOST_ACCOUNTS) {
            return FULL;
        }
        return accounts.open(funds, keys, threshold);
    }

    public int lock(int account, int keys, int threshold) {
        if (!accounts.has(account) || !isLock(keys, threshold)) {
            return BAD;
        }
        accounts.setLock(account, keys, threshold);
        return 1;
    }

    public long funds(int account) {
        return accounts.has(account) ? accounts.funds[account] : BAD;
    }

    public int next(int account) {
        return accounts.has(account) ? accounts.nexts[account] : BAD;
    }

    public int sign(int key, long digest) {
        if (key < 0 || key >= MOST_KEYS) {
            return BAD;
        }
        if (signatures.count >= MOST_SIGNATURES) {
            return FULL;
        }
        return signatures.keep(key, digest);
    }

    // ---- the draft

    public int draft(int owner, int number, int price, int limit) {
        if (!accounts.has(owner) || number < 0 || number > MOST_NUMBER) {
            return BAD;
        }
        if (price < 0 || price > MOST_PRICE || limit < LEAST_LIMIT || limit > MOST_LIMIT) {
            return BAD;
        }
        draft.begin(owner, number, price, limit);
        return 1;
    }

    public int until(int height) {
        if (!isHeight(height)) {
            return BAD;
        }
        if (!draft.isThere) {
            return NONE;
        }
        draft.call.end = height;
        return 1;
    }

    public int from(int height) {
        if (!isHeight(height)) {
            return BAD;
        }
        if (!draft.isThere) {
            return NONE;
        }
        draft.call.start = height;
        return 1;
    }

    public int sponsor(int account) {
        if (account != NO_SPONSOR && !accounts.has(account)) {
            return BAD;
        }
        if (!draft.isThere) {
            return NONE;
        }
        draft.call.sponsor = account;
        return 1;
    }

    public int act(int account, long amount) {
        if (!accounts.has(account) || !isAmount(amount)) {
            return BAD;
        }
        if (!draft.isThere) {
            return NONE;
        }
        if (draft.call.acts >= MOST_ACTS) {
            return FULL;
        }
        return draft.call.append(account, amount);
    }

    public int add(int signature) {
        if (!signatures.has(signature)) {
            return BAD;
        }
        if (!draft.isThere) {
            return NONE;
        }
        if (draft.added >= MOST_ADDED) {
            return FULL;
        }
        return draft.append(signature);
    }

    public long digest() {
        return draft.isThere ? draft.call.computeDigest() : 0;
    }

    public int offer() {
        if (!draft.isThere) {
            return NONE;
        }
        Call call = draft.call;
        int rival = row.indexOf(call.owner, call.number);
        int reason = refusal(call, rival);
        if (reason != NOT_REFUSED) {
            return REFUSED_BASE - reason;
        }
        if (rival != NOT_FOUND) {
            end(rival, REPLACED);
        } else if (row.isFull()) {
            end(row.cheapest(), PUSHED);
        }
        return row.append(call);
    }

    public int step(int n) {
        if (n < 1 || n > MOST_STEP) {
            return BAD;
        }
        int before = priceStep;
        priceStep = n;
        return before;
    }

    // ---- blocks

    public int block(int room) {
        if (room < 0 || room > MOST_ROOM) {
            return BAD;
        }
        height++;
        endThoseOver();
        int left = room;
        int done = 0;
        // Every turn takes one out of the row, so there are no more turns than places.
        for (int turn = 0; turn < MOST_WAITING; turn++) {
            int index = dearestReady(left);
            if (index == NOT_FOUND) {
                break;
            }
            Call call = row.take(index);
            int why = perform(call);
            log.note(call.ticket, why, call.used);
            left -= call.used;
            if (why == DONE) {
                done++;
            }
        }
        return done;
    }

    public int waiting(int i, int what) {
        if (i < 0 || i >= row.count) {
            return BAD;
        }
        Call call = row.calls[i];
        switch (what) {
            case 0: return call.ticket;
            case 1: return call.owner;
            case 2: return call.number;
            case 3: return call.price;
            default: return BAD;
        }
    }

    public int event(int i, int what) {
        if (i < 0 || i >= log.kept) {
            return BAD;
        }
        int place = log.placeOf(i);
        switch (what) {
            case 0: return log.tickets[place];
            case 1: return log.whys[place];
            case 2: return log.units[place];
            default: return BAD;
        }
    }

    public long paid() {
        return paidInAll;
    }

    public int told(int what) {
        switch (what) {
            case 0: return accounts.count;
            case 1: return signatures.count;
            case 2: return row.count;
            case 3: return row.ticketsGiven;
            case 4: return log.inAll;
            case 5: return height;
            default: return BAD;
        }
    }

    // ---- what is as told

    private static boolean isAmount(long amount) {
        return amount >= 0 && amount <= MOST_AMOUNT;
    }

    private static boolean isHeight(int height) {
        return height >= 0 && height <= MOST_HEIGHT;
    }

    private static boolean isLock(int keys, int threshold) {
        return keys > 0 && keys < 1 << MOST_KEYS && threshold >= 1 && threshold <= Integer.bitCount(keys);
    }

    // ---- offers

    private int refusal(Call call, int rival) {
        if (call.acts == 0) {
            return NO_ACT;
        }
        if (call.end < height) {
            return END_IS_OVER;
        }
        if (call.number < accounts.nexts[call.owner]) {
            return NUMBER_IS_USED;
        }
        int signers = signersOfDraft();
        if (!accounts.isMet(call.owner, signers)) {
            return OWNER_NOT_MET;
        }
        if (call.sponsor != NO_SPONSOR && !accounts.isMet(call.sponsor, signers)) {
            return SPONSOR_NOT_MET;
        }
        if (!coversStake(call)) {
            return STAKE_NOT_COVERED;
        }
        return refusalByRow(call, rival);
    }

    private int refusalByRow(Call call, int rival) {
        if (rival != NOT_FOUND) {
            return call.price < row.calls[rival].price + priceStep ? STEP_NOT_REACHED : NOT_REFUSED;
        }
        if (row.isFull() && call.price <= row.calls[row.cheapest()].price) {
            return ROW_IS_DEARER;
        }
        return NOT_REFUSED;
    }

    /** The keys, a bit each, that have signed the draft as it is now: a later change of it makes older signatures void. */
    private int signersOfDraft() {
        long digest = draft.call.computeDigest();
        int signers = 0;
        for (int k = 0; k < draft.added; k++) {
            int signature = draft.signatures[k];
            if (signatures.digests[signature] == digest) {
                signers |= 1 << signatures.keys[signature];
            }
        }
        return signers;
    }

    private boolean coversStake(Call call) {
        return accounts.funds[call.payer()] >= call.stake();
    }

    private void end(int index, int why) {
        Call call = row.take(index);
        log.note(call.ticket, why, 0);
    }

    // ---- the work of a block

    private void endThoseOver() {
        int index = 0;
        for (int unseen = row.count; unseen > 0; unseen--) {
            if (row.calls[index].end < height) {
                end(index, ENDED);
            } else {
                index++;
            }
        }
    }

    private int dearestReady(int roomLeft) {
        int best = NOT_FOUND;
        for (int i = 0; i < row.count; i++) {
            // The row is by tickets: of alike prices the first one seen stays.
            if (isReady(row.calls[i], roomLeft) && (best == NOT_FOUND || row.calls[i].price > row.calls[best].price)) {
                best = i;
            }
        }
        return best;
    }

    private boolean isReady(Call call, int roomLeft) {
        return call.number == accounts.nexts[call.owner] && call.start <= height && call.limit <= roomLeft;
    }

    /** Does a call that was taken: why it is done or gone. The units it used stay in it. */
    private int perform(Call call) {
        call.used = 0;
        if (!coversStake(call)) {
            return POOR;
        }
        int payer = call.payer();
        accounts.funds[payer] -= call.stake();
        accounts.nexts[call.owner]++;
        boolean whole = doActs(call);
        long cost = (long) call.price * call.used;
        accounts.funds[payer] += call.stake() - cost;
        paidInAll += cost;
        return whole ? DONE : FAILED;
    }

    private boolean doActs(Call call) {
        for (int k = 0; k < call.acts; k++) {
            if (!doAct(call, k)) {
                undoActs(call, k);
                return false;
            }
        }
        return true;
    }

    private boolean doAct(Call call, int k) {
        if (call.used + UNITS_OF_AN_ACT > call.limit) {
            return false;
        }
        call.used += UNITS_OF_AN_ACT;
        if (accounts.funds[call.owner] < call.amounts[k]) {
            return false;
        }
        accounts.move(call.owner, call.receivers[k], call.amounts[k]);
        return true;
    }

    private void undoActs(Call call, int howMany) {
        for (int k = 0; k < howMany; k++) {
            accounts.move(call.receivers[k], call.owner, call.amounts[k]);
        }
    }

    // ---- what is kept

    private static final class Accounts {
        final long[] funds = new long[MOST_ACCOUNTS];
        final int[] nexts = new int[MOST_ACCOUNTS];
        final int[] keys = new int[MOST_ACCOUNTS];
        final int[] thresholds = new int[MOST_ACCOUNTS];
        int count;

        boolean has(int account) {
            return account >= 0 && account < count;
        }

        int open(long itsFunds, int itsKeys, int threshold) {
            int account = count;
            count++;
            funds[account] = itsFunds;
            setLock(account, itsKeys, threshold);
            return account;
        }

        void setLock(int account, int itsKeys, int threshold) {
            keys[account] = itsKeys;
            thresholds[account] = threshold;
        }

        boolean isMet(int account, int signers) {
            return Integer.bitCount(keys[account] & signers) >= thresholds[account];
        }

        void move(int giver, int receiver, long amount) {
            funds[giver] -= amount;
            funds[receiver] += amount;
        }
    }

    private static final class Signatures {
        final int[] keys = new int[MOST_SIGNATURES];
        final long[] digests = new long[MOST_SIGNATURES];
        int count;

        boolean has(int signature) {
            return signature >= 0 && signature < count;
        }

        int keep(int key, long digest) {
            int signature = count;
            count++;
            keys[signature] = key;
            digests[signature] = digest;
            return signature;
        }
    }

    private static final class Call {
        final int[] receivers = new int[MOST_ACTS];
        final long[] amounts = new long[MOST_ACTS];
        int acts;
        int owner;
        int number;
        int price;
        int limit;
        int end;
        int start;
        int sponsor;
        int ticket;
        int used;

        void begin(int itsOwner, int itsNumber, int itsPrice, int itsLimit) {
            owner = itsOwner;
            number = itsNumber;
            price = itsPrice;
            limit = itsLimit;
            end = MOST_HEIGHT;
            start = 0;
            sponsor = NO_SPONSOR;
            acts = 0;
        }

        int append(int receiver, long amount) {
            receivers[acts] = receiver;
            amounts[acts] = amount;
            acts++;
            return acts;
        }

        void becomeLike(Call other) {
            begin(other.owner, other.number, other.price, other.limit);
            end = other.end;
            start = other.start;
            sponsor = other.sponsor;
            for (int k = 0; k < other.acts; k++) {
                append(other.receivers[k], other.amounts[k]);
            }
        }

        int payer() {
            return sponsor == NO_SPONSOR ? owner : sponsor;
        }

        long stake() {
            return (long) price * limit;
        }

        long computeDigest() {
            long h = 17;
            h = 31 * h + owner;
            h = 31 * h + number;
            h = 31 * h + price;
            h = 31 * h + limit;
            h = 31 * h + end;
            h = 31 * h + start;
            h = 31 * h + sponsor;
            for (int k = 0; k < acts; k++) {
                h = 31 * h + receivers[k];
                h = 31 * h + amounts[k];
            }
            return h;
        }
    }

    private static final class Draft {
        final Call call = new Call();
        final int[] signatures = new int[MOST_ADDED];
        int added;
        boolean isThere;

        void begin(int owner, int number, int price, int limit) {
            call.begin(owner, number, price, limit);
            added = 0;
            isThere = true;
        }

        int append(int signature) {
            signatures[added] = signature;
            added++;
            return added;
        }
    }

    /** Those that wait, by tickets, in the first places; behind them the objects that are free for later ones. */
    private static final class WaitingRow {
        final Call[] calls = new Call[MOST_WAITING];
        int count;
        int ticketsGiven;

        WaitingRow() {
            for (int i = 0; i < MOST_WAITING; i++) {
                calls[i] = new Call();
            }
        }

        boolean isFull() {
            return count >= MOST_WAITING;
        }

        int indexOf(int owner, int number) {
            for (int i = 0; i < count; i++) {
                if (calls[i].owner == owner && calls[i].number == number) {
                    return i;
                }
            }
            return NOT_FOUND;
        }

        /** Of alike prices the latest ticket; asked only of a row that is full. */
        int cheapest() {
            int found = 0;
            for (int i = 1; i < count; i++) {
                if (calls[i].price <= calls[found].price) {
                    found = i;
                }
            }
            return found;
        }

        int append(Call offered) {
            Call call = calls[count];
            call.becomeLike(offered);
            call.ticket = ticketsGiven;
            count++;
            ticketsGiven++;
            return call.ticket;
        }

        /** Its object moves to the free ones and keeps what it holds till the next append. */
        Call take(int index) {
            Call taken = calls[index];
            for (int i = index + 1; i < count; i++) {
                calls[i - 1] = calls[i];
            }
            count--;
            calls[count] = taken;
            return taken;
        }
    }

    /** The latest events in a ring: an older one's place is used again. */
    private static final class EventLog {
        final int[] tickets = new int[EVENTS_KEPT];
        final int[] whys = new int[EVENTS_KEPT];
        final int[] units = new int[EVENTS_KEPT];
        int kept;
        int newest = EVENTS_KEPT - 1;
        int inAll;

        void note(int ticket, int why, int itsUnits) {
            newest = newest + 1 < EVENTS_KEPT ? newest + 1 : 0;
            tickets[newest] = ticket;
            whys[newest] = why;
            units[newest] = itsUnits;
            kept = Math.min(kept + 1, EVENTS_KEPT);
            inAll++;
        }

        int placeOf(int back) {
            int place = newest - back;
            return place >= 0 ? place : place + EVENTS_KEPT;
        }
    }
}
