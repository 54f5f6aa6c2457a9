import java.util.ArrayList;
import java.util.Arrays;
import java.util.List;
import java.util.function.Supplier;

/**
 * 'REFUSALS are answers, the first that fits: BAD .., NONE .., FULL. They change nothing.' Two objects are brought to
 * the same state; one gets a call that is refused; then both must answer alike, whatever is asked.
 */
public final class RefusalsTest {
    private static final int BAD = SignedCalls.BAD, NONE = SignedCalls.NONE, FULL = SignedCalls.FULL;
    private static final int MIN = Integer.MIN_VALUE, MAX = Integer.MAX_VALUE;
    private static final long MOST = 1_000_000_000_000L;

    record Refused(long due, String name, long... arguments) {
    }

    public static void main(String[] args) {
        aNewObject();
        withoutADraft();
        withADraft();
        allRowsFull();
        allSignaturesMade();
        allEventsKept();
        offersRefused();
        readingChangesNothing();
        Due.end();
    }

    private static void aNewObject() {
        Supplier<Run> made = () -> new Run("a new object");
        List<Refused> refused = bad(0, 0, 0, 0);
        add(refused, NONE, "offer");
        add(refused, NONE, "until", 0);
        add(refused, NONE, "from", 1000000);
        add(refused, NONE, "sponsor", -1);
        unchanged(made, refused);
    }

    private static Run busy(String sentence) {
        Run r = new Run(sentence).due(0, "account", 1000, 0b111, 2).due(1, "account", 1000, 0b1000, 1).due(2, "account", 50, 1, 1);
        r.drafted(0, 0, 2, 20, 2, 5).signed(0, 1).due(0, "offer");
        r.drafted(0, 1, 2, 20, 2, 2000).signed(1, 2).due(1, "offer").due(1, "block", 100);
        r.drafted(0, 2, 2, 20, 2, 5).due(1, "from", 2).signed(0, 2).due(2, "offer");
        return r.drafted(1, 4, 9, 10, 2, 5).signed(3).due(3, "offer").due(1, "step", 3);
    }

    private static void withoutADraft() {
        Supplier<Run> made = () -> new Run("accounts and signatures, no DRAFT").accounts(10, 20).due(0, "sign", 0, 5).due(1, "step", 7);
        List<Refused> refused = bad(2, 1, 0, 0);
        add(refused, NONE, "offer");
        add(refused, NONE, "until", 1);
        add(refused, NONE, "from", 1);
        add(refused, NONE, "sponsor", 1);
        add(refused, NONE, "sponsor", -1);
        add(refused, NONE, "act", 1, 0);
        add(refused, NONE, "add", 0);
        unchanged(made, refused);
    }

    private static void withADraft() {
        Supplier<Run> made = () -> {
            Run r = busy("a DRAFT that may be offered").drafted(0, 3, 3, 30, 1, 7, 2, 8).due(1, "until", 9).due(1, "from", 1).due(1, "sponsor", 1);
            return r.signed(0, 2, 3);
        };
        unchanged(made, bad(3, 10, 2, 2));
    }

    private static void allRowsFull() {
        Supplier<Run> made = () -> {
            Run r = new Run("12 ACCOUNTS, 24 that WAIT, 4 ACTS, 12 SIGNATURES");
            r.accounts(9000, 9001, 9002, 9003, 9004, 9005, 9006, 9007, 9008, 9009, 9010, 9011).row(0, 0, 0, 12, 5).row(12, 11, 0, 12, 5);
            return r.drafted(11, 12, 6, 40, 1, 1, 2, 2, 3, 3, 11, 4).signed(11, 11, 11, 11, 11, 11, 11, 11, 11, 11, 11, 11);
        };
        List<Refused> refused = bad(12, 36, 24, 0);
        add(refused, FULL, "account", 5, 1, 1);
        add(refused, FULL, "account", 0, 65535, 16);
        add(refused, FULL, "act", 0, 0);
        add(refused, FULL, "act", 11, MOST);
        add(refused, FULL, "add", 0);
        add(refused, FULL, "add", 35);
        unchanged(made, refused);
    }

    /** The draft's two signatures are the first and the last of all. */
    private static void allSignaturesMade() {
        Supplier<Run> made = () -> {
            Run r = new Run("200 SIGNATURES").due(0, "account", 1000, 3, 2).drafted(0, 0, 1, 10, 0, 1);
            long digest = r.call("digest");
            for (int k = 0; k < 200; k++) {
                r.call("sign", k == 0 ? 0 : k == 199 ? 1 : 2, digest);
            }
            return r.due(1, "add", 199);
        };
        List<Refused> refused = bad(1, 200, 0, 0);
        add(refused, FULL, "sign", 0, 0);
        add(refused, FULL, "sign", 15, -1);
        add(refused, -14, "offer");
        unchanged(made, refused);
    }

    private static void allEventsKept() {
        Supplier<Run> made = () -> {
            Run r = new Run("61 EVENTS").accounts(MOST);
            for (int k = 0; k < 62; k++) {
                r.call("draft", 0, 3, k, 10);
                r.call("act", 0, 0);
                r.call("sign", 0, Run.digestOf(0, 3, k, 10, 1000000, 0, -1, 0, 0));
                r.call("add", k);
                r.call("offer");
            }
            return r;
        };
        List<Refused> refused = new ArrayList<>();
        add(refused, BAD, "event", 60, 0);
        add(refused, BAD, "event", 61, 0);
        add(refused, BAD, "event", 59, 3);
        add(refused, BAD, "event", -1, 0);
        add(refused, BAD, "block", 10001);
        add(refused, -17, "offer");
        for (Refused one : refused) {
            Run x = made.get().due(one.due, one.name, one.arguments);
            compare(one, "look", x.look(), made.get().look());
        }
    }

    private static void offersRefused() {
        unchanged(() -> busy("no ACT").drafted(0, 3, 3, 30).signed(0, 1), of(-11));
        unchanged(() -> busy("END").drafted(0, 3, 3, 30, 1, 1).due(1, "until", 0).signed(0, 1), of(-12));
        unchanged(() -> busy("NUMBER").drafted(0, 1, 3, 30, 1, 1).signed(0, 1), of(-13));
        unchanged(() -> busy("the OWNER's LOCK").drafted(0, 3, 3, 30, 1, 1).signed(0), of(-14));
        unchanged(() -> busy("the SPONSOR's LOCK").drafted(0, 3, 3, 30, 1, 1).due(1, "sponsor", 1).signed(0, 1), of(-15));
        unchanged(() -> busy("THE STAKE").drafted(0, 3, 100, 30, 1, 1).signed(0, 1), of(-16));
        unchanged(() -> busy("STEP").drafted(0, 2, 4, 30, 1, 1).signed(0, 1), of(-17));
        unchanged(() -> new Run("24 WAIT").accounts(9000, 9000).row(0, 0, 0, 24, 5).drafted(1, 0, 5, 10, 1, 1).signed(1), of(-18));
    }

    private static List<Refused> of(long due) {
        List<Refused> refused = new ArrayList<>();
        add(refused, due, "offer");
        return refused;
    }

    private static void readingChangesNothing() {
        Run r = busy("reading").drafted(0, 3, 3, 30, 1, 7).signed(0, 2);
        Due.holds("two looks are alike", r.look().equals(r.look()));
        Due.holds("and so is what comes then", after(r).equals(after(busy("not read").drafted(0, 3, 3, 30, 1, 7).signed(0, 2))));
    }

    private static void add(List<Refused> refused, long due, String name, long... arguments) {
        refused.add(new Refused(due, name, arguments));
    }

    /** Every call that can be BAD, at each bound that makes it so, for these many accounts, signatures, waiting ones and events. */
    private static List<Refused> bad(int accounts, int signatures, int waiting, int events) {
        List<Refused> refused = new ArrayList<>();
        badLocks(refused, accounts);
        badDrafts(refused, accounts, signatures);
        int[][] pairs = {{-1, 0}, {waiting, 0}, {MIN, 0}, {MAX, 0}, {0, 4}, {0, -1}};
        for (int[] pair : pairs) {
            add(refused, BAD, "waiting", pair[0], pair[1]);
        }
        int[][] eventPairs = {{-1, 0}, {events, 0}, {MIN, 0}, {MAX, 0}, {0, 3}, {0, -1}};
        for (int[] pair : eventPairs) {
            add(refused, BAD, "event", pair[0], pair[1]);
        }
        String[] names = {"told", "step", "block"};
        long[][] bounds = {{-1, 6}, {0, 1001}, {-1, 10001}};
        for (int k = 0; k < names.length; k++) {
            add(refused, BAD, names[k], bounds[k][0]);
            add(refused, BAD, names[k], bounds[k][1]);
            add(refused, BAD, names[k], MIN);
            add(refused, BAD, names[k], MAX);
        }
        return refused;
    }

    private static void badLocks(List<Refused> refused, int accounts) {
        add(refused, BAD, "account", -1, 1, 1);
        add(refused, BAD, "account", MOST + 1, 1, 1);
        int[][] locks = {{0, 1}, {0, 0}, {65536, 1}, {-1, 1}, {1, 0}, {1, 2}, {65535, 17}, {8, -1}};
        for (int[] lock : locks) {
            add(refused, BAD, "account", 5, lock[0], lock[1]);
            for (int account = 0; account < accounts; account++) {
                add(refused, BAD, "lock", account, lock[0], lock[1]);
            }
        }
        int[] none = {-1, accounts, MIN, MAX};
        for (int account : none) {
            add(refused, BAD, "lock", account, 256, 1);
            add(refused, BAD, "funds", account);
            add(refused, BAD, "next", account);
        }
        add(refused, BAD, "sign", -1, 0);
        add(refused, BAD, "sign", 16, 0);
    }

    private static void badDrafts(List<Refused> refused, int accounts, int signatures) {
        int[][] drafts = {{-1, 0, 1, 10}, {accounts, 0, 1, 10}, {0, -1, 1, 10}, {0, 1000, 1, 10}, {0, 0, -1, 10},
            {0, 0, 1000001, 10}, {0, 0, 1, 9}, {0, 0, 1, 1001}};
        for (int[] d : drafts) {
            add(refused, BAD, "draft", d[0], d[1], d[2], d[3]);
        }
        String[] heights = {"until", "from"};
        for (String name : heights) {
            add(refused, BAD, name, -1);
            add(refused, BAD, name, 1000001);
        }
        add(refused, BAD, "sponsor", -2);
        add(refused, BAD, "sponsor", accounts);
        add(refused, BAD, "act", -1, 0);
        add(refused, BAD, "act", accounts, 0);
        add(refused, BAD, "act", 0, -1);
        add(refused, BAD, "act", 0, MOST + 1);
        add(refused, BAD, "add", -1);
        add(refused, BAD, "add", signatures);
    }

    private static void unchanged(Supplier<Run> made, List<Refused> refused) {
        Run other = made.get();
        List<Long> seen = other.look();
        List<Long> later = after(other);
        for (Refused one : refused) {
            Run x = made.get().due(one.due, one.name, one.arguments);
            boolean alike = compare(one, "look", x.look(), seen);
            alike &= compare(one, "what comes then", after(x), later);
            if (!alike) {
                System.out.println("  " + x.calls());
                return;
            }
        }
    }

    private static boolean compare(Refused one, String what, List<Long> got, List<Long> want) {
        Due.holds(one.name + Arrays.toString(one.arguments) + " changes nothing: " + what + " is " + got + ", due is " + want, got.equals(want));
        return got.equals(want);
    }

    /** Calls whose answers show what no look can: the step, the draft's rows, the locks, the places that are free. */
    private static List<Long> after(Run r) {
        List<Long> answers = new ArrayList<>();
        answers.add(r.call("step", 1));
        answers.add(r.call("add", 0));
        answers.add(r.call("offer"));
        answers.add(r.call("act", 0, 0));
        answers.add(r.call("digest"));
        answers.add(r.call("account", 77, 1, 1));
        answers.add(r.call("sign", 1, 99));
        answers.add(r.call("block", 10000));
        answers.addAll(r.look());
        return answers;
    }
}
