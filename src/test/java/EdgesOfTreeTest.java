import java.util.ArrayList;
import java.util.Arrays;
import java.util.List;

/** Each sentence that names a boundary for the promises 15 to 21, by the promise's number. */
public final class EdgesOfTreeTest {
    private static final int MIN = Edges.MIN;
    private static final int MAX = Edges.MAX;
    /** Each power of two of a board, and what stands beside it. */
    private static final int[] WIDTHS = {1, 2, 3, 4, 5, 6, 7, 8, 9, 15, 16, 17, 31, 32, 33, 63, 64, 65, 127, 128, 129,
        159, 160};
    private static final long[] LEAVES = leavesOfTheFullBoard();

    private EdgesOfTreeTest() {
    }

    public static void main(String[] args) {
        promise15Digest();
        promise15FirstAndLastRecord();
        promise15LeastAndGreatestNumbers();
        promise15NoSuchRecord();
        promise16HeadOfNone();
        promise16Widths();
        promise16NotSoMany();
        promise17Widths();
        promise17NoneForOneRecord();
        promise17NoSuchRecordOrNotSoMany();
        promise18Widths();
        promise18NoneForTheSame();
        promise18NoSuchPartOrNotSoMany();
        promise19FirstAndLastDigest();
        promise19NoSuchDigest();
        promise19StaysWhenTheBoardChanges();
        promise19StaysBehindRefusedCalls();
        promise20FalseWhenKIsNoneOfN();
        promise20AsManyDigestsAsItMust();
        promise20NoDigests();
        promise20AnyBoard();
        promise20AnyLeafAndHead();
        promise21FalseWhenJIsNoneOfN();
        promise21AsManyDigestsAsItMust();
        promise21TheSame();
        promise21AnyBoard();
        promise21AnyHeads();
        promise21EveryProofTakenAsEveryOther();
        Check.end();
    }

    private static long[] leavesOfTheFullBoard() {
        OpenPoll poll = State.VOTED_FULL.get();
        long[] leaves = new long[160];
        for (int k = 0; k < 160; k++) {
            leaves[k] = poll.leaf(k);
        }
        return leaves;
    }

    private static OpenPoll full() {
        return State.VOTED_FULL.get();
    }

    /** The proof that was made last: count digests, and no more. */
    private static List<Long> proof(OpenPoll poll, int count) {
        List<Long> digests = new ArrayList<>();
        for (int i = 0; i < count; i++) {
            digests.add(poll.proof(i));
        }
        Check.outOfBounds("proof(" + count + ") of so many", () -> poll.proof(count));
        return digests;
    }

    // ---- promise 15

    /** "(wrapping)"; "without sign"; "in the end the digest is h shifted right by one without sign" */
    private static void promise15Digest() {
        for (State state : State.values()) {
            OpenPoll poll = state.get();
            for (int k = Math.max(0, state.records - 20); k < state.records; k++) {
                Check.equal("leaf(" + k + ") in " + state, poll.leaf(k), leafOf(poll, k));
                Check.isTrue("leaf(" + k + ") is not less than 0", poll.leaf(k) >= 0);
            }
        }
        long[][] some = {{}, {0}, {-1}, {Long.MIN_VALUE}, {Long.MAX_VALUE, Long.MIN_VALUE, -1}, {1, 2, 3, 4, 5, 6}};
        for (long[] longs : some) {
            Check.equal("the digest of " + Arrays.toString(longs), Model.digest(longs), Edges.digest(longs));
        }
    }

    private static long leafOf(OpenPoll poll, int k) {
        return Edges.digest(0, poll.field(k, 0), poll.field(k, 1), poll.field(k, 2), poll.field(k, 3),
            poll.field(k, 4), poll.field(k, 5), poll.field(k, 6));
    }

    private static void promise15FirstAndLastRecord() {
        OpenPoll one = new OpenPoll();
        one.begin(1, 2, 3);
        Check.equal("leaf(0) of one record", one.leaf(0), 4993551290674038155L);
        Check.equal("leaf(0) of one record", one.leaf(0), Edges.digest(0, 0, 4, 16, 64, 0, 0, 0));
        OpenPoll poll = full();
        Check.equal("leaf(0) of a full board", poll.leaf(0), leafOf(poll, 0));
        Check.equal("leaf(159) of a full board", poll.leaf(159), leafOf(poll, 159));
    }

    private static void promise15LeastAndGreatestNumbers() {
        OpenPoll poll = State.VOTED.get();
        for (int number : new int[] {MIN, MIN + 1, -1, 0, 1, MAX}) {
            for (int field = 1; field <= 6; field++) {
                poll.forge(5, field, number);
                Check.equal("leaf with " + number + " in field " + field, poll.leaf(5), leafOf(poll, 5));
                Check.equal("head with " + number + " in field " + field, poll.head(6),
                    Edges.digest(1, poll.head(4), Edges.digest(1, poll.leaf(4), poll.leaf(5))));
            }
        }
    }

    /** "IndexOutOfBoundsException when there is no such record" */
    private static void promise15NoSuchRecord() {
        for (State state : State.values()) {
            for (int no : new int[] {MIN, -1, state.records, 160, 161, MAX}) {
                Edges.outOfBounds(state, "leaf(" + no + ")", poll -> poll.leaf(no));
            }
        }
    }

    // ---- promise 16

    /** "its HEAD is 0 for n = 0" */
    private static void promise16HeadOfNone() {
        for (State state : State.values()) {
            Check.equal("head(0) in " + state, state.get().head(0), 0L);
        }
    }

    /** "for n = 1 the LEAF"; "m being the greatest power of two less than n" */
    private static void promise16Widths() {
        OpenPoll poll = full();
        Check.equal("head(1)", poll.head(1), LEAVES[0]);
        Check.equal("head(2)", poll.head(2), Edges.digest(1, LEAVES[0], LEAVES[1]));
        Check.equal("head(3)", poll.head(3), Edges.digest(1, poll.head(2), LEAVES[2]));
        Check.equal("head(5)", poll.head(5), Edges.digest(1, poll.head(4), LEAVES[4]));
        Check.equal("head(129)", poll.head(129), Edges.digest(1, poll.head(128), LEAVES[128]));
        for (int n = 0; n <= 160; n++) {
            Check.equal("head(" + n + ")", poll.head(n), Tree.head(LEAVES, 0, n));
            Check.isTrue("head(" + n + ") is not less than 0", poll.head(n) >= 0);
        }
        for (State state : State.values()) {
            OpenPoll other = state.get();
            long[] leaves = new long[state.records];
            for (int k = 0; k < state.records; k++) {
                leaves[k] = other.leaf(k);
            }
            Check.equal("head of all in " + state, other.head(state.records), Tree.head(leaves, 0, state.records));
        }
    }

    /** "IndexOutOfBoundsException when there are not so many, or n is less than 0" */
    private static void promise16NotSoMany() {
        for (State state : State.values()) {
            for (int no : new int[] {MIN, -1, state.records + 1, 161, MAX}) {
                Edges.outOfBounds(state, "head(" + no + ")", poll -> poll.head(no));
            }
        }
    }

    // ---- promise 17

    private static void promise17Widths() {
        for (int n : WIDTHS) {
            for (int k = 0; k < n; k++) {
                int m = n == 1 ? 1 : (int) Tree.split(n);
                boolean edge = n <= 17 || k < 2 || k > n - 3 || k == m - 1 || k == m || k == m / 2;
                if (edge) {
                    OpenPoll poll = full();
                    List<Long> due = Tree.proof(LEAVES, 0, k, n);
                    String call = "prove(" + k + ", " + n + ")";
                    Check.equal(call, poll.prove(k, n), due.size());
                    Check.equal(call + ": its digests", proof(poll, due.size()), due);
                    Check.isTrue(call + " shows it", poll.shows(k, n, LEAVES[k], Tree.head(LEAVES, 0, n)));
                }
            }
        }
    }

    /** "The PROOF that record k is in it: none for n = 1" */
    private static void promise17NoneForOneRecord() {
        for (State state : State.values()) {
            if (state.records > 0) {
                OpenPoll poll = state.get();
                poll.prove(state.records - 1, state.records);
                Check.equal("prove(0, 1) in " + state, poll.prove(0, 1), 0);
                Check.outOfBounds("proof(0) of prove(0, 1) in " + state, () -> poll.proof(0));
            }
        }
    }

    /** "IndexOutOfBoundsException when it is not, or there are not so many" */
    private static void promise17NoSuchRecordOrNotSoMany() {
        for (State state : State.values()) {
            int all = state.records;
            int[][] wrong = {{0, 0}, {-1, 0}, {0, -1}, {-1, -1}, {-2, -1}, {MIN, MIN}, {MIN, MAX}, {MAX, MIN},
                {MAX, MAX}, {MAX - 1, MAX}, {-1, all}, {all, all}, {all + 1, all}, {MIN, all}, {MAX, all}, {0, all + 1},
                {all, all + 1}, {0, 161}, {160, 161}, {0, MAX}, {0, MIN}};
            for (int[] pair : wrong) {
                Edges.outOfBounds(state, "prove(" + pair[0] + ", " + pair[1] + ")",
                    poll -> poll.prove(pair[0], pair[1]));
            }
            if (all > 0) {
                Edges.taken(state.toString(), state, "prove, the last", poll -> poll.prove(all - 1, all));
                Edges.taken(state.toString(), state, "prove, the first", poll -> poll.prove(0, all));
                Edges.outOfBounds(state, "prove(1, 1)", poll -> poll.prove(1, 1));
            }
        }
    }

    // ---- promise 18

    private static void promise18Widths() {
        for (int n : WIDTHS) {
            for (int j = 1; j <= n; j++) {
                int m = n == 1 ? 1 : (int) Tree.split(n);
                boolean edge = n <= 17 || j < 3 || j > n - 3 || Math.abs(j - m) < 2 || Math.abs(j - m / 2) < 2;
                if (edge) {
                    OpenPoll poll = full();
                    List<Long> due = Tree.goingOn(LEAVES, 0, j, n, true);
                    String call = "relate(" + j + ", " + n + ")";
                    Check.equal(call, poll.relate(j, n), due.size());
                    Check.equal(call + ": its digests", proof(poll, due.size()), due);
                    Check.isTrue(call + " continues it",
                        poll.continues(j, n, Tree.head(LEAVES, 0, j), Tree.head(LEAVES, 0, n)));
                }
            }
        }
    }

    /** "if j = n: none if b" */
    private static void promise18NoneForTheSame() {
        for (State state : State.values()) {
            if (state.records > 0) {
                OpenPoll poll = state.get();
                poll.prove(0, state.records);
                Check.equal("relate(all, all) in " + state, poll.relate(state.records, state.records), 0);
                Check.outOfBounds("proof(0) of relate(all, all) in " + state, () -> poll.proof(0));
                Check.equal("relate(1, 1) in " + state, poll.relate(1, 1), 0);
            }
        }
        OpenPoll poll = full();
        Check.equal("relate(128, 160)", poll.relate(128, 160), 1);
        Check.equal("relate(128, 160): the head of the others", poll.proof(0), Tree.head(LEAVES, 128, 32));
        Check.equal("relate(129, 160)", poll.relate(129, 160), 7);
        Check.equal("relate(129, 160): the head where j = n, not b", poll.proof(0), LEAVES[128]);
    }

    /** "IndexOutOfBoundsException when j is not 1 .. n, or there are not n" */
    private static void promise18NoSuchPartOrNotSoMany() {
        for (State state : State.values()) {
            int all = state.records;
            int[][] wrong = {{0, 0}, {0, 1}, {1, 0}, {-1, 0}, {-1, -1}, {-2, -1}, {MIN, MIN}, {MIN, MAX}, {MAX, MIN},
                {MAX, MAX}, {MAX - 1, MAX}, {0, all}, {-1, all}, {all + 1, all}, {MIN, all}, {MAX, all}, {1, all + 1},
                {all + 1, all + 1}, {1, 161}, {161, 161}, {160, 161}, {1, MAX}, {1, MIN}};
            for (int[] pair : wrong) {
                Edges.outOfBounds(state, "relate(" + pair[0] + ", " + pair[1] + ")",
                    poll -> poll.relate(pair[0], pair[1]));
            }
            if (all > 0) {
                Edges.taken(state.toString(), state, "relate, the first", poll -> poll.relate(1, all));
                Edges.taken(state.toString(), state, "relate, the same", poll -> poll.relate(all, all));
            }
        }
    }

    // ---- promise 19

    private static void promise19FirstAndLastDigest() {
        OpenPoll poll = full();
        Check.equal("the longest proof of a record", poll.prove(127, 160), 8);
        Check.equal("its first digest", poll.proof(0), LEAVES[126]);
        Check.equal("its last digest", poll.proof(7), Tree.head(LEAVES, 128, 32));
        Check.equal("the longest proof of going on", poll.relate(127, 160), 9);
        Check.equal("its first digest", poll.proof(0), LEAVES[126]);
        Check.equal("its last digest", poll.proof(8), Tree.head(LEAVES, 128, 32));
    }

    /** "IndexOutOfBoundsException when there is no such" */
    private static void promise19NoSuchDigest() {
        OpenPoll fresh = new OpenPoll();
        OpenPoll poll = full();
        int[][] proofs = {{127, 160}, {0, 2}, {0, 1}, {3, 17}};
        for (int no : new int[] {MIN, -1, 0, 1, 9, 31, 32, 33, MAX}) {
            Check.outOfBounds("proof(" + no + ") of none", () -> fresh.proof(no));
        }
        for (int[] pair : proofs) {
            int count = poll.prove(pair[0], pair[1]);
            for (int no : new int[] {MIN, -1, count, count + 1, 31, 32, MAX}) {
                Check.outOfBounds("proof(" + no + ") of " + count, () -> poll.proof(no));
            }
            count = poll.relate(pair[0] + 1, pair[1]);
            for (int no : new int[] {MIN, -1, count, count + 1, 31, 32, MAX}) {
                Check.outOfBounds("proof(" + no + ") of " + count, () -> poll.proof(no));
            }
        }
        for (State state : State.values()) {
            int count = state.records == 0 ? 0 : state.get().relate(1, state.records);
            for (int no : new int[] {MIN, -1, count, 32, MAX}) {
                Edges.outOfBounds(state, "proof(" + no + ")", p -> p.proof(no));
            }
        }
    }

    /** "(it stays as it was when the board changes)" */
    private static void promise19StaysWhenTheBoardChanges() {
        OpenPoll poll = State.VOTED.get();
        poll.relate(3, 6);
        String due = Edges.proof(poll);
        for (int k = 0; k < 6; k++) {
            poll.forge(k, 1, -7);
            Check.equal("the proof behind forging " + k, Edges.proof(poll), due);
        }
        poll.register(9);
        Check.equal("the proof behind registering", Edges.proof(poll), due);
        poll.cast(9, 1, 1);
        Check.equal("the proof behind casting", Edges.proof(poll), due);
        poll.close();
        Check.equal("the proof behind closing", Edges.proof(poll), due);
        poll.mix(1, 5);
        Check.equal("the proof behind mixing", Edges.proof(poll), due);
        for (int trustee = 0; trustee < 3; trustee++) {
            poll.open(trustee, 1);
            Check.equal("the proof behind opening", Edges.proof(poll), due);
        }
        poll.finish();
        Check.equal("the proof behind finishing", Edges.proof(poll), due);
        poll.head(20);
        poll.audit();
        poll.leaf(19);
        poll.shows(0, 5, 1, 1);
        poll.continues(3, 160, 1, 1);
        Check.equal("the proof behind what changes nothing", Edges.proof(poll), due);
        poll.begin(1, 1, 1);
        Check.equal("the proof behind beginning again", Edges.proof(poll), due);
        Check.isTrue("it still continues", poll.continues(3, 6, State.VOTED.get().head(3), State.VOTED.get().head(6)));
    }

    private static void promise19StaysBehindRefusedCalls() {
        OpenPoll poll = full();
        poll.prove(100, 160);
        String due = Edges.proof(poll);
        int[][] wrong = {{160, 160}, {-1, 160}, {0, 0}, {0, 161}, {MIN, MAX}};
        for (int[] pair : wrong) {
            Check.outOfBounds("prove", () -> poll.prove(pair[0], pair[1]));
            Check.outOfBounds("relate", () -> poll.relate(pair[0] + 1, pair[1]));
            Check.equal("the proof behind refused ones", Edges.proof(poll), due);
        }
        Check.isTrue("it still shows", poll.shows(100, 160, LEAVES[100], Tree.head(LEAVES, 0, 160)));
    }

    // ---- promise 20

    /** "False when k is not 0 .. n - 1." */
    private static void promise20FalseWhenKIsNoneOfN() {
        int[][] wrong = {{0, 0}, {-1, 0}, {1, 0}, {-1, 1}, {1, 1}, {2, 1}, {MIN, 1}, {MAX, 1}, {0, -1}, {-1, -1},
            {-2, -1}, {MIN, MIN}, {MIN, -1}, {0, MIN}, {MAX, MIN}, {MAX, MAX}, {MIN, MAX}, {-1, MAX}, {-1, 2}, {2, 2},
            {3, 2}, {7, 7}, {-1, 7}, {MAX, 7}, {MIN, 7}};
        for (State state : State.values()) {
            for (int[] pair : wrong) {
                OpenPoll poll = state.get();
                String call = "shows(" + pair[0] + ", " + pair[1] + ") in " + state;
                Check.isFalse(call, poll.shows(pair[0], pair[1], 5, 5));
                Check.isFalse(call, poll.shows(pair[0], pair[1], 0, 0));
                if (state.records > 1) {
                    poll.prove(1, 2);
                    long other = poll.proof(0);
                    Check.isFalse(call, poll.shows(pair[0], pair[1], 5, Tree.node(other, 5)));
                    Check.isFalse(call, poll.shows(pair[0], pair[1], 5, Tree.node(5, other)));
                    Check.isFalse(call, poll.shows(pair[0], pair[1], 5, 5));
                }
            }
        }
    }

    /** "it has as many digests as it must": one too few or too many is not enough, whatever they make. */
    private static void promise20AsManyDigestsAsItMust() {
        OpenPoll poll = full();
        poll.prove(2, 4);
        Check.isTrue("two digests", poll.shows(2, 4, LEAVES[2], Tree.head(LEAVES, 0, 4)));
        Check.isTrue("two digests for three records", poll.shows(1, 3, LEAVES[2],
            Tree.shown(Tree.proof(LEAVES, 0, 2, 4), 1, 3, LEAVES[2])));
        Check.isFalse("two digests, one too many", poll.shows(2, 3, LEAVES[2], Tree.head(LEAVES, 0, 4)));
        Check.isFalse("two digests, one too few", poll.shows(2, 8, LEAVES[2], Tree.head(LEAVES, 0, 4)));
        Check.isFalse("two digests for none", poll.shows(0, 1, LEAVES[2], LEAVES[2]));
        poll.prove(2, 8);
        Check.isFalse("three digests, one too many", poll.shows(2, 4, LEAVES[2], Tree.head(LEAVES, 0, 8)));
        Check.isFalse("three digests, the first two alone", poll.shows(2, 4, LEAVES[2], Tree.head(LEAVES, 0, 4)));
        for (int n : WIDTHS) {
            int k = n - 1;
            poll.prove(k, n);
            long head = Tree.head(LEAVES, 0, n);
            Check.isTrue("shows(" + k + ", " + n + ")", poll.shows(k, n, LEAVES[k], head));
            int m = n == 1 ? 1 : (int) Tree.split(n);
            Check.isFalse("shows beside a tree one deeper", poll.shows(k, 4 * m + 1, LEAVES[k], head));
            Check.isFalse("shows in a tree of two more levels", poll.shows(0, 4 * m, LEAVES[k], head));
        }
    }

    /** No digests: record 0 is all there is, and its leaf is the head. */
    private static void promise20NoDigests() {
        OpenPoll related = State.VOTED.get();
        related.relate(6, 6);
        OpenPoll proved = State.VOTED.get();
        proved.prove(0, 1);
        for (OpenPoll poll : new OpenPoll[] {new OpenPoll(), related, proved}) {
            for (long leaf : new long[] {Long.MIN_VALUE, -1, 0, 1, Long.MAX_VALUE}) {
                Check.isTrue("shows(0, 1), the leaf is the head", poll.shows(0, 1, leaf, leaf));
                Check.isFalse("shows(0, 1), another head", poll.shows(0, 1, leaf, leaf + 1));
                Check.isFalse("shows(0, 2)", poll.shows(0, 2, leaf, leaf));
                Check.isFalse("shows(1, 2)", poll.shows(1, 2, leaf, leaf));
                Check.isFalse("shows(0, MAX)", poll.shows(0, MAX, leaf, leaf));
                Check.isFalse("shows(MAX - 1, MAX)", poll.shows(MAX - 1, MAX, leaf, leaf));
            }
        }
    }

    /** "(of any board: there need not be so many)": the greatest n too. */
    private static void promise20AnyBoard() {
        int top = 1 << 30;
        int[] widths = {2, 161, 1 << 16, top - 1, top, top + 1, top + (1 << 29) + 1, top + (1 << 29) + (1 << 28) + 1,
            top + 2, top + 3, MAX - 1, MAX};
        for (int count = 0; count <= 8; count++) {
            OpenPoll poll = full();
            int of = Math.min(160, 1 << count);
            poll.prove(0, of);
            List<Long> digests = Tree.proof(LEAVES, 0, 0, of);
            Check.equal("so many digests", digests.size(), count);
            for (int n : widths) {
                for (int k : new int[] {0, 1, n / 2, n - 2, n - 1, top - 1, top}) {
                    if (k < n) {
                        Long head = Tree.shown(digests, k, n, 77);
                        String call = "shows(" + k + ", " + n + ") by " + count;
                        Check.equal(call, poll.shows(k, n, 77, head == null ? 77 : head), head != null);
                    }
                }
            }
        }
        OpenPoll poll = full();
        poll.prove(1, 2);
        Check.isTrue("the last of 2^30 + 1", poll.shows(top, top + 1, 5, Tree.node(LEAVES[0], 5)));
        poll.prove(0, 4);
        Check.isTrue("the last of 2^30 + 2^29 + 1", poll.shows(top + (1 << 29), top + (1 << 29) + 1, 5,
            Tree.node(Tree.head(LEAVES, 2, 2), Tree.node(LEAVES[1], 5))));
    }

    private static void promise20AnyLeafAndHead() {
        OpenPoll poll = full();
        poll.prove(1, 2);
        for (long leaf : new long[] {Long.MIN_VALUE, -1, 0, 1, Long.MAX_VALUE}) {
            long head = Edges.digest(1, LEAVES[0], leaf);
            Check.isTrue("shows, the leaf " + leaf, poll.shows(1, 2, leaf, head));
            Check.isFalse("shows, another head", poll.shows(1, 2, leaf, ~head));
            Check.isFalse("shows, another head", poll.shows(1, 2, leaf, head | Long.MIN_VALUE));
            Check.isFalse("shows, as the other record", poll.shows(0, 2, leaf, head));
        }
        for (int bit = 0; bit < 64; bit++) {
            Check.isFalse("shows, another bit of the leaf",
                poll.shows(1, 2, LEAVES[1] ^ 1L << bit, Tree.head(LEAVES, 0, 2)));
            Check.isFalse("shows, another bit of the head",
                poll.shows(1, 2, LEAVES[1], Tree.head(LEAVES, 0, 2) ^ 1L << bit));
        }
    }

    // ---- promise 21

    /** "False when j is not 1 .. n." */
    private static void promise21FalseWhenJIsNoneOfN() {
        int[][] wrong = {{0, 0}, {0, 1}, {1, 0}, {-1, 0}, {-1, 1}, {2, 1}, {MIN, 1}, {MAX, 1}, {0, -1}, {-1, -1},
            {-2, -1}, {MIN, MIN}, {MIN, -1}, {1, MIN}, {MAX, MIN}, {MAX, MAX - 1}, {MIN, MAX}, {0, MAX}, {0, 2},
            {-1, 2}, {3, 2}, {8, 7}, {0, 7}, {MAX, 7}, {MIN, 7}};
        for (State state : State.values()) {
            for (int[] pair : wrong) {
                OpenPoll poll = state.get();
                String call = "continues(" + pair[0] + ", " + pair[1] + ") in " + state;
                Check.isFalse(call, poll.continues(pair[0], pair[1], 5, 5));
                Check.isFalse(call, poll.continues(pair[0], pair[1], 0, 0));
                if (state.records > 1) {
                    poll.relate(1, 2);
                    long other = poll.proof(0);
                    Check.isFalse(call, poll.continues(pair[0], pair[1], 5, Tree.node(5, other)));
                    Check.isFalse(call, poll.continues(pair[0], pair[1], other, other));
                    Check.isFalse(call, poll.continues(pair[0], pair[1], 0, other));
                    Check.isFalse(call, poll.continues(pair[0], pair[1], 5, 5));
                }
            }
        }
    }

    /** "it has as many digests as it must" */
    private static void promise21AsManyDigestsAsItMust() {
        OpenPoll poll = full();
        poll.relate(3, 8);
        Check.isFalse("four digests, one too many", poll.continues(3, 4, Tree.head(LEAVES, 0, 3),
            Tree.head(LEAVES, 0, 8)));
        Check.isFalse("four digests, the first three alone", poll.continues(3, 4, Tree.head(LEAVES, 0, 3),
            Tree.head(LEAVES, 0, 4)));
        poll.relate(3, 4);
        Check.isTrue("three digests", poll.continues(3, 4, Tree.head(LEAVES, 0, 3), Tree.head(LEAVES, 0, 4)));
        Check.isFalse("three digests, one too few", poll.continues(3, 8, Tree.head(LEAVES, 0, 3),
            Tree.head(LEAVES, 0, 4)));
        poll.relate(2, 4);
        Check.isTrue("one digest", poll.continues(2, 4, Tree.head(LEAVES, 0, 2), Tree.head(LEAVES, 0, 4)));
        Check.isFalse("one digest, one too few", poll.continues(2, 8, Tree.head(LEAVES, 0, 2),
            Tree.head(LEAVES, 0, 4)));
        Check.isFalse("one digest for none", poll.continues(4, 4, Tree.head(LEAVES, 0, 4), Tree.head(LEAVES, 0, 4)));
        poll.relate(4, 5);
        Check.isFalse("one digest where the first of three is the former head", poll.continues(3, 4,
            LEAVES[4], LEAVES[4]));
        poll.relate(4, 4);
        Check.isFalse("no digests, one too few", poll.continues(2, 4, 5, 5));
        Check.isFalse("no digests, three too few", poll.continues(3, 4, 5, 5));
    }

    /** "(for j = n: they are the same)" */
    private static void promise21TheSame() {
        OpenPoll related = State.VOTED.get();
        related.relate(6, 6);
        OpenPoll proved = State.VOTED.get();
        proved.prove(0, 1);
        OpenPoll one = State.VOTED.get();
        one.relate(1, 2);
        for (int n : new int[] {1, 2, 3, 4, 6, 160, 161, 1 << 30, MAX - 1, MAX}) {
            for (long head : new long[] {Long.MIN_VALUE, -1, 0, 1, Long.MAX_VALUE}) {
                for (OpenPoll poll : new OpenPoll[] {new OpenPoll(), related, proved}) {
                    Check.isTrue("continues(" + n + ", " + n + ")", poll.continues(n, n, head, head));
                    Check.isFalse("continues, another after", poll.continues(n, n, head, head + 1));
                    Check.isFalse("continues, another before", poll.continues(n, n, ~head, head));
                }
                Check.isFalse("continues, the same by one digest", one.continues(n, n, head, head));
            }
        }
    }

    /** "taken as one that the first n go on from the first j": the greatest n too. */
    private static void promise21AnyBoard() {
        int top = 1 << 30;
        int[] widths = {2, 161, 1 << 16, top - 1, top, top + 1, top + (1 << 29) + 1, top + (1 << 29) + (1 << 28) + 1,
            top + 2, top + 3, MAX - 1, MAX};
        int[][] proofs = {{1, 1}, {1, 2}, {2, 4}, {1, 4}, {3, 4}, {3, 5}, {5, 8}, {7, 16}, {15, 32}, {31, 64},
            {63, 128}, {127, 160}};
        for (int[] pair : proofs) {
            OpenPoll poll = full();
            poll.relate(pair[0], pair[1]);
            List<Long> digests = Tree.goingOn(LEAVES, 0, pair[0], pair[1], true);
            for (int n : widths) {
                for (int j : new int[] {1, 2, n / 2, n - 1, n, top - 1, top, top + 1, top + (1 << 29)}) {
                    if (j <= n) {
                        long[] known = Tree.continued(digests, j, n, true, 77);
                        String call = "continues(" + j + ", " + n + ") by " + digests.size();
                        Check.equal(call, poll.continues(j, n, known == null ? 77 : known[0],
                            known == null ? 77 : known[1]), known != null);
                    }
                }
            }
        }
        OpenPoll poll = full();
        poll.relate(1, 2);
        Check.isTrue("2^30 + 1 go on from 2^30", poll.continues(top, top + 1, 5, Tree.node(5, LEAVES[1])));
    }

    private static void promise21AnyHeads() {
        OpenPoll poll = full();
        poll.relate(1, 2);
        for (long before : new long[] {Long.MIN_VALUE, -1, 0, 1, Long.MAX_VALUE}) {
            long after = Edges.digest(1, before, LEAVES[1]);
            Check.isTrue("continues, before is " + before, poll.continues(1, 2, before, after));
            Check.isFalse("continues, another after", poll.continues(1, 2, before, ~after));
            Check.isFalse("continues, another before", poll.continues(1, 2, before ^ 1, after));
        }
        poll.relate(3, 5);
        long before = Tree.head(LEAVES, 0, 3);
        long after = Tree.head(LEAVES, 0, 5);
        Check.isTrue("continues(3, 5)", poll.continues(3, 5, before, after));
        for (int bit = 0; bit < 64; bit++) {
            Check.isFalse("continues, another bit of before", poll.continues(3, 5, before ^ 1L << bit, after));
            Check.isFalse("continues, another bit of after", poll.continues(3, 5, before, after ^ 1L << bit));
        }
    }

    /** Whichever call has made it, "the proof that was made last" can be taken as either, for any k, j and n. */
    private static void promise21EveryProofTakenAsEveryOther() {
        for (int n = 1; n <= 9; n++) {
            for (int k = 0; k < n; k++) {
                OpenPoll proved = Edges.voted(1, 9);
                long[] leaves = new long[9];
                for (int i = 0; i < 9; i++) {
                    leaves[i] = proved.leaf(i);
                }
                proved.prove(k, n);
                takenAsEach(proved, Tree.proof(leaves, 0, k, n), leaves);
                OpenPoll related = Edges.voted(1, 9);
                related.relate(k + 1, n);
                takenAsEach(related, Tree.goingOn(leaves, 0, k + 1, n, true), leaves);
            }
        }
    }

    private static void takenAsEach(OpenPoll poll, List<Long> digests, long[] leaves) {
        for (int n = 1; n <= 9; n++) {
            for (int k = 0; k < n; k++) {
                Long head = Tree.shown(digests, k, n, leaves[k]);
                Check.equal("a proof of " + digests.size() + ", shows(" + k + ", " + n + ")",
                    poll.shows(k, n, leaves[k], head == null ? Tree.head(leaves, 0, n) : head), head != null);
                int j = k + 1;
                long before = Tree.head(leaves, 0, j);
                long after = Tree.head(leaves, 0, n);
                long[] known = Tree.continued(digests, j, n, true, before);
                boolean due = known != null && known[0] == before && known[1] == after;
                Check.equal("a proof of " + digests.size() + ", continues(" + j + ", " + n + ")",
                    poll.continues(j, n, before, after), due);
                if (known != null) {
                    Check.isTrue("a proof of " + digests.size() + ", continues(" + j + ", " + n + "), what it makes",
                        poll.continues(j, n, known[0], known[1]));
                }
            }
        }
    }
}
