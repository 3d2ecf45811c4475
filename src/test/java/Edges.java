import java.math.BigInteger;
import java.util.function.Consumer;
import java.util.function.Supplier;

/**
 * What the tests of boundaries share: the ints that are none of what a call wants, what a poll shows, how it goes on,
 * and that a refused call leaves both as they were. No poll here is used for more than 512 calls.
 */
final class Edges {
    static final int MIN = Integer.MIN_VALUE;
    static final int MAX = Integer.MAX_VALUE;
    static final int[] NO_NUMBERS = {-1, 2039, MIN, MAX};
    static final int[] NO_VOTERS = {-1, 10, MIN, MAX};
    static final int[] NO_CHOICES = {-1, 4, MIN, MAX};
    static final int[] NO_TRUSTEES = {-1, 3, MIN, MAX};
    static final int[] SEEDS = {MIN, MIN + 1, -1, 0, 1, MAX - 1, MAX};

    private static final BigInteger TWO_TO_64 = BigInteger.ONE.shiftLeft(64);
    private static final BigInteger FACTOR = new BigInteger("9E3779B97F4A7C15", 16);

    private Edges() {
    }

    // ---- refused calls

    static void illegalArgument(State state, String call, Consumer<OpenPoll> step) {
        refused("IllegalArgumentException", state.toString(), state, call, step);
    }

    static void illegalState(State state, String call, Consumer<OpenPoll> step) {
        refused("IllegalStateException", state.toString(), state, call, step);
    }

    static void noRoom(State state, String call, Consumer<OpenPoll> step) {
        refused("UnsupportedOperationException", state.toString(), state, call, step);
    }

    static void outOfBounds(State state, String call, Consumer<OpenPoll> step) {
        refused("IndexOutOfBoundsException", state.toString(), state, call, step);
    }

    /** The call throws this, shows nothing else behind it, and the poll goes on like one that has not met it. */
    static void refused(String exception, String name, Supplier<OpenPoll> maker, String call,
            Consumer<OpenPoll> step) {
        String what = call + " in " + name;
        OpenPoll poll = withProof(maker.get());
        OpenPoll twin = withProof(maker.get());
        Check.equal(what, Check.outcome(Check.silent(() -> step.accept(poll))), "throws." + exception);
        Check.equal(what + ": what shows behind it", shown(poll), shown(twin));
        Check.equal(what + ": how it goes on", goneOn(poll), goneOn(twin));
    }

    /** The call throws nothing. */
    static OpenPoll taken(String name, Supplier<OpenPoll> maker, String call, Consumer<OpenPoll> step) {
        OpenPoll poll = maker.get();
        Check.equal(call + " in " + name, Check.outcome(Check.silent(() -> step.accept(poll))), "nothing");
        return poll;
    }

    private static OpenPoll withProof(OpenPoll poll) {
        if (poll.records() > 0) {
            poll.relate(1, poll.records());
        }
        return poll;
    }

    // ---- what shows

    static String shown(OpenPoll poll) {
        int records = poll.records();
        StringBuilder text = new StringBuilder();
        text.append("phase ").append(poll.phase()).append(", records ").append(records);
        text.append(", head ").append(poll.head(records)).append(", audit ").append(poll.audit()).append(", votes");
        for (int choice = 0; choice < 4; choice++) {
            text.append(' ').append(poll.votes(choice));
        }
        return text.append(", proof").append(proof(poll)).toString();
    }

    static String proof(OpenPoll poll) {
        StringBuilder text = new StringBuilder();
        for (int i = 0; i < 40; i++) {
            int at = i;
            String digest = Check.outcome(() -> poll.proof(at));
            text.append(' ').append(digest);
            if (digest.startsWith("throws")) {
                break;
            }
        }
        return text.toString();
    }

    /** All steps to come, each with its answer or exception: what is kept inside shows here. */
    static String goneOn(OpenPoll poll) {
        StringBuilder text = new StringBuilder();
        for (int voter = 9; voter >= 0; voter--) {
            int one = voter;
            text.append(Check.outcome(Check.silent(() -> poll.register(one)))).append(' ');
        }
        text.append(Check.outcome(() -> poll.cast(1, 3, 99))).append(' ');
        text.append(Check.outcome(poll::close)).append(' ');
        text.append(Check.outcome(Check.silent(() -> poll.mix(4, 1)))).append(' ');
        text.append(Check.outcome(Check.silent(() -> poll.mix(-4, 0)))).append(' ');
        for (int trustee = 0; trustee < 3; trustee++) {
            int one = trustee;
            text.append(Check.outcome(Check.silent(() -> poll.open(one, 6)))).append(' ');
        }
        text.append(Check.outcome(poll::finish)).append(' ');
        return text.append(shown(poll)).toString();
    }

    static void record(String what, OpenPoll poll, int k, int... due) {
        for (int field = 0; field <= 6; field++) {
            Check.equal(what + ", field(" + k + ", " + field + ")", poll.field(k, field),
                field < due.length ? due[field] : 0);
        }
    }

    // ---- polls of so many entries, with so many records

    /** Of n voters, each with a ballot, and more ballots of voter 0 until there are so many records. */
    static OpenPoll voted(int n, int records) {
        OpenPoll poll = new OpenPoll();
        poll.begin(5, 7, 11);
        for (int voter = 0; voter < n; voter++) {
            poll.register(voter);
        }
        for (int voter = 0; voter < n; voter++) {
            poll.cast(voter, voter % 4, 10 + voter);
        }
        while (n > 0 && poll.records() < records) {
            poll.cast(0, 0, 10);
        }
        return poll;
    }

    /** Closed with n entries, those of voted; with none, mixings make up the records. */
    static OpenPoll closed(int n, int records) {
        OpenPoll poll = voted(n, records - 1 - n);
        poll.close();
        while (n == 0 && poll.records() < records) {
            poll.mix(0, 0);
        }
        return poll;
    }

    static OpenPoll closed(int n) {
        return closed(n, 0);
    }

    static OpenPoll opened(int n, int records) {
        OpenPoll poll = closed(n, records - 3 * n);
        for (int trustee = 0; trustee < 3; trustee++) {
            poll.open(trustee, trustee);
        }
        return poll;
    }

    // ---- reckoning

    static int orders(int n) {
        int orders = 1;
        for (int i = 2; i <= n; i++) {
            orders *= i;
        }
        return orders;
    }

    /** The digest among numbers that know neither a sign nor an end, cut to 64 bits where the document wraps. */
    static long digest(long... longs) {
        BigInteger h = BigInteger.ZERO;
        for (long x : longs) {
            BigInteger unsigned = BigInteger.valueOf(x).mod(TWO_TO_64);
            h = h.xor(unsigned).multiply(FACTOR).mod(TWO_TO_64);
            h = h.xor(h.shiftRight(29));
        }
        return h.shiftRight(1).longValueExact();
    }

    static int digestNumber(long... longs) {
        return BigInteger.valueOf(digest(longs)).mod(BigInteger.valueOf(2039)).intValueExact();
    }
}
