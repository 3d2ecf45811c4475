/**
 * Polls whose every step anybody can check: votes are cast hidden, mixed, opened by three trustees together and
 * counted, and every step stands as records on a board that can be audited and proved from.
 */
public final class OpenPoll {
    public static final int NONE = -1;

    private static final int TRUSTEES = 3;
    private static final int VOTERS = 10;
    private static final int CHOICES = 4;

    // the kinds of record
    private static final int BEGUN = 0;
    private static final int VOTER = 1;
    private static final int BALLOT = 2;
    private static final int CLOSED = 3;
    private static final int MIXED = 4;
    private static final int ENTRY = 5;
    private static final int SHARE = 6;
    private static final int RESULT = 7;

    // the phases; the document's NONE is UNBEGUN here, as the constant NONE is another number
    private static final int UNBEGUN = 0;
    private static final int VOTING = 1;
    private static final int MIXING = 2;
    private static final int OPENING = 3;
    private static final int DONE = 4;

    private final Board board = new Board();
    private final Poll poll = new Poll();
    private final Audit check = new Audit();
    private final Proof latest = new Proof();
    private final int[] secrets = new int[TRUSTEES];
    private int stage = UNBEGUN;

    public OpenPoll() {
    }

    public void begin(int x, int y, int z) throws IllegalArgumentException {
        if (!Group.isNumber(x) || !Group.isNumber(y) || !Group.isNumber(z)) {
            throw new IllegalArgumentException("a secret is no number");
        }
        secrets[0] = x;
        secrets[1] = y;
        secrets[2] = z;
        poll.start(Group.ofBase(x), Group.ofBase(y), Group.ofBase(z));
        board.empty();
        board.put(BEGUN, poll.keys[0], poll.keys[1], poll.keys[2]);
        stage = VOTING;
    }

    public void register(int voter)
            throws IllegalArgumentException, IllegalStateException, UnsupportedOperationException {
        if (!isVoter(voter)) {
            throw new IllegalArgumentException("no such voter");
        }
        if (stage != VOTING || poll.registered[voter]) {
            throw new IllegalStateException("not voting, or registered before");
        }
        if (!board.hasRoom(1)) {
            throw new UnsupportedOperationException("no room on the board");
        }
        poll.registered[voter] = true;
        board.put(VOTER, voter, 0, 0);
    }

    public int cast(int voter, int choice, int r)
            throws IllegalArgumentException, IllegalStateException, UnsupportedOperationException {
        if (!isVoter(voter) || !isChoice(choice) || !Group.isNumber(r)) {
            throw new IllegalArgumentException("no such voter or choice, or no number");
        }
        if (stage != VOTING || !poll.registered[voter]) {
            throw new IllegalStateException("not voting, or not registered");
        }
        if (!board.hasRoom(1)) {
            throw new UnsupportedOperationException("no room on the board");
        }
        int a = Group.ofBase(r);
        int b = Group.times(Group.ofBase(choice), Group.power(poll.jointKey, r));
        poll.keepBallot(voter, a, b);
        return board.put(BALLOT, voter, a, b);
    }

    public int close() throws IllegalStateException, UnsupportedOperationException {
        if (stage != VOTING) {
            throw new IllegalStateException("not voting");
        }
        if (!board.hasRoom(1 + poll.ballotVoters())) {
            throw new UnsupportedOperationException("no room on the board");
        }
        poll.gatherEntries();
        board.put(CLOSED, 0, 0, 0);
        putEntries();
        stage = MIXING;
        return poll.entries;
    }

    public void mix(int seed, int order)
            throws IllegalStateException, IllegalArgumentException, UnsupportedOperationException {
        if (stage != MIXING) {
            throw new IllegalStateException("not mixing");
        }
        if (!poll.isOrder(order)) {
            throw new IllegalArgumentException("no order of the entries");
        }
        if (!board.hasRoom(1 + poll.entries)) {
            throw new UnsupportedOperationException("no room on the board");
        }
        poll.mixEntries(seed, order);
        board.put(MIXED, seed, order, 0);
        putEntries();
    }

    public void open(int trustee, int seed)
            throws IllegalArgumentException, IllegalStateException, UnsupportedOperationException {
        if (!isTrustee(trustee)) {
            throw new IllegalArgumentException("no such trustee");
        }
        if ((stage != MIXING && stage != OPENING) || poll.opened[trustee]) {
            throw new IllegalStateException("not mixing or opening, or opened before");
        }
        if (!board.hasRoom(poll.entries)) {
            throw new UnsupportedOperationException("no room on the board");
        }
        for (int place = 0; place < poll.entries; place++) {
            putShare(trustee, place, seed);
        }
        poll.opened[trustee] = true;
        stage = OPENING;
    }

    public int finish() throws IllegalStateException, UnsupportedOperationException {
        if (stage != OPENING || !poll.allOpened()) {
            throw new IllegalStateException("not all have opened, or done before");
        }
        if (!board.hasRoom(1)) {
            throw new UnsupportedOperationException("no room on the board");
        }
        poll.countVotes();
        int result = board.put(RESULT, poll.counts[0], poll.counts[1], poll.counts[2]);
        board.write(result, 3, poll.counts[3]);
        stage = DONE;
        return poll.counts[0] + poll.counts[1] + poll.counts[2] + poll.counts[3];
    }

    public int phase() {
        return stage;
    }

    public int votes(int choice) throws IllegalArgumentException {
        if (!isChoice(choice)) {
            throw new IllegalArgumentException("no such choice");
        }
        return stage == DONE ? poll.counts[choice] : NONE;
    }

    public int records() {
        return board.size;
    }

    public int field(int k, int field) throws IndexOutOfBoundsException {
        if (!board.has(k) || field < 0 || field > Board.NUMBERS) {
            throw new IndexOutOfBoundsException("no such record or field");
        }
        return field == 0 ? board.kind(k) : board.number(k, field - 1);
    }

    public int forge(int k, int field, int number) throws IndexOutOfBoundsException {
        if (!board.has(k) || field < 1 || field > Board.NUMBERS) {
            throw new IndexOutOfBoundsException("no such record or field");
        }
        int before = board.number(k, field - 1);
        board.write(k, field - 1, number);
        return before;
    }

    public int audit() {
        return check.firstWrong(board);
    }

    public long leaf(int k) throws IndexOutOfBoundsException {
        if (!board.has(k)) {
            throw new IndexOutOfBoundsException("no such record");
        }
        return board.leafOf(k);
    }

    public long head(int n) throws IndexOutOfBoundsException {
        if (n < 0 || n > board.size) {
            throw new IndexOutOfBoundsException("not so many records");
        }
        return board.headOf(0, n);
    }

    public int prove(int k, int n) throws IndexOutOfBoundsException {
        if (k < 0 || k >= n || n > board.size) {
            throw new IndexOutOfBoundsException("no such record, or not so many");
        }
        return latest.makeForRecord(board, k, n);
    }

    public int relate(int j, int n) throws IndexOutOfBoundsException {
        if (j < 1 || j > n || n > board.size) {
            throw new IndexOutOfBoundsException("no such part, or not so many records");
        }
        return latest.makeForFirst(board, j, n);
    }

    public long proof(int i) throws IndexOutOfBoundsException {
        if (i < 0 || i >= latest.count) {
            throw new IndexOutOfBoundsException("no such digest");
        }
        return latest.digests[i];
    }

    public boolean shows(int k, int n, long leaf, long head) {
        return k >= 0 && k < n && latest.fitsRecord(k, n, leaf, head);
    }

    public boolean continues(int j, int n, long before, long after) {
        return j >= 1 && j <= n && latest.fitsFirst(j, n, before, after);
    }

    private static boolean isTrustee(int trustee) {
        return trustee >= 0 && trustee < TRUSTEES;
    }

    private static boolean isVoter(int voter) {
        return voter >= 0 && voter < VOTERS;
    }

    private static boolean isChoice(int choice) {
        return choice >= 0 && choice < CHOICES;
    }

    private void putEntries() {
        for (int place = 0; place < poll.entries; place++) {
            board.put(ENTRY, poll.entryA[place], poll.entryB[place], 0);
        }
    }

    private void putShare(int trustee, int place, int seed) {
        int a = poll.entryA[place];
        int d = Group.power(a, secrets[trustee]);
        int k = Digest.number(Digest.with(Digest.with(Digest.with(0L, seed), trustee), place));
        int t = Group.ofBase(k);
        int u = Group.power(a, k);
        int c = Digest.challenge(poll.keys[trustee], a, d, t, u);
        int share = board.put(SHARE, trustee, place, d);
        board.write(share, 3, (k + c * secrets[trustee]) % Group.Q);
        board.write(share, 4, t);
        board.write(share, 5, u);
        poll.addShare(place, d);
    }

    /** The numbers modulo Q and the elements modulo P; a product of two elements is far inside an int. */
    private static final class Group {
        static final int P = 4079;
        static final int Q = 2039;
        static final int BASE = 4;

        private Group() {
        }

        static boolean isNumber(int number) {
            return number >= 0 && number < Q;
        }

        // the range comes first: power is meant for what lies below P
        static boolean isElement(int e) {
            return e >= 1 && e < P && power(e, Q) == 1;
        }

        static int times(int a, int b) {
            return a * b % P;
        }

        static int power(int base, int exponent) {
            int result = 1;
            int square = base;
            for (int rest = exponent; rest > 0; rest >>= 1) {
                if ((rest & 1) == 1) {
                    result = result * square % P;
                }
                square = square * square % P;
            }
            return result;
        }

        static int ofBase(int exponent) {
            return power(BASE, exponent);
        }

        // e^Q is 1 for each element, so e^(Q - 1) undoes e
        static int inverse(int e) {
            return power(e, Q - 1);
        }
    }

    /** The digest, taken in one long after another; what stands in between is not yet shifted at its end. */
    private static final class Digest {
        static final long FACTOR = 0x9E3779B97F4A7C15L;

        private Digest() {
        }

        static long with(long taken, long next) {
            long product = (taken ^ next) * FACTOR;
            return product ^ (product >>> 29);
        }

        static long ended(long taken) {
            return taken >>> 1;
        }

        static int number(long taken) {
            return (int) ((taken >>> 1) % Group.Q);
        }

        static long ofParts(long left, long right) {
            return ended(with(with(with(0L, 1L), left), right));
        }

        static int challenge(int key, int a, int d, int t, int u) {
            return number(with(with(with(with(with(0L, key), a), d), t), u));
        }
    }

    /** The records as everybody sees them, forged ones too. */
    private static final class Board {
        static final int ROOM = 160;
        static final int NUMBERS = 6;

        private final int[] kinds = new int[ROOM];
        private final int[] numbers = new int[ROOM * NUMBERS];
        private final long[] heads = new long[ROOM];
        private int size;

        void empty() {
            size = 0;
        }

        boolean has(int k) {
            return k >= 0 && k < size;
        }

        boolean hasRoom(int more) {
            return more <= ROOM - size;
        }

        // callers ask hasRoom first
        int put(int kind, int first, int second, int third) {
            int k = size;
            kinds[k] = kind;
            write(k, 0, first);
            write(k, 1, second);
            write(k, 2, third);
            for (int f = 3; f < NUMBERS; f++) {
                write(k, f, 0);
            }
            size++;
            return k;
        }

        int kind(int k) {
            return kinds[k];
        }

        int number(int k, int f) {
            return numbers[k * NUMBERS + f];
        }

        void write(int k, int f, int number) {
            numbers[k * NUMBERS + f] = number;
        }

        long leafOf(int k) {
            long taken = Digest.with(Digest.with(0L, 0L), kind(k));
            for (int f = 0; f < NUMBERS; f++) {
                taken = Digest.with(taken, number(k, f));
            }
            return Digest.ended(taken);
        }

        // Parts split at powers of two are the same as neighbours joined level by level, an odd last one waiting.
        long headOf(int from, int n) {
            if (n == 0) {
                return 0L;
            }
            for (int i = 0; i < n; i++) {
                heads[i] = leafOf(from + i);
            }
            for (int width = n; width > 1; width = (width + 1) / 2) {
                joinNeighbours(width);
            }
            return heads[0];
        }

        private void joinNeighbours(int width) {
            for (int i = 0; i < width / 2; i++) {
                heads[i] = Digest.ofParts(heads[2 * i], heads[2 * i + 1]);
            }
            if (width % 2 == 1) {
                heads[width / 2] = heads[width - 1];
            }
        }
    }

    /**
     * What a poll's steps make: one is led by the steps that are done here, so that forging does not reach it,
     * another by the audit from what the board tells.
     */
    private static final class Poll {
        private final int[] keys = new int[TRUSTEES];
        private int jointKey;
        private final boolean[] registered = new boolean[VOTERS];
        private final boolean[] hasCast = new boolean[VOTERS];
        private final int[] lastA = new int[VOTERS];
        private final int[] lastB = new int[VOTERS];
        private int entries;
        private final int[] entryA = new int[VOTERS];
        private final int[] entryB = new int[VOTERS];
        private final int[] oldA = new int[VOTERS];
        private final int[] oldB = new int[VOTERS];
        private final boolean[] taken = new boolean[VOTERS];
        private final int[] shares = new int[VOTERS];
        private final boolean[] opened = new boolean[TRUSTEES];
        private final int[] counts = new int[CHOICES];

        void start(int key0, int key1, int key2) {
            keys[0] = key0;
            keys[1] = key1;
            keys[2] = key2;
            jointKey = Group.times(Group.times(key0, key1), key2);
            for (int voter = 0; voter < VOTERS; voter++) {
                registered[voter] = false;
                hasCast[voter] = false;
            }
            for (int trustee = 0; trustee < TRUSTEES; trustee++) {
                opened[trustee] = false;
            }
        }

        void keepBallot(int voter, int a, int b) {
            hasCast[voter] = true;
            lastA[voter] = a;
            lastB[voter] = b;
        }

        int ballotVoters() {
            int n = 0;
            for (int voter = 0; voter < VOTERS; voter++) {
                if (hasCast[voter]) {
                    n++;
                }
            }
            return n;
        }

        void gatherEntries() {
            entries = 0;
            for (int voter = 0; voter < VOTERS; voter++) {
                if (hasCast[voter]) {
                    entryA[entries] = lastA[voter];
                    entryB[entries] = lastB[voter];
                    shares[entries] = 1;
                    entries++;
                }
            }
        }

        boolean isOrder(int order) {
            int orders = 1;
            for (int i = 2; i <= entries; i++) {
                orders *= i;
            }
            return order >= 0 && order < orders;
        }

        void mixEntries(int seed, int order) {
            for (int place = 0; place < entries; place++) {
                oldA[place] = entryA[place];
                oldB[place] = entryB[place];
                taken[place] = false;
            }
            int rest = order;
            for (int i = 0; i < entries; i++) {
                int from = takeEntry(rest % (entries - i));
                rest = rest / (entries - i);
                int r = Digest.number(Digest.with(Digest.with(0L, seed), i));
                entryA[i] = Group.times(oldA[from], Group.ofBase(r));
                entryB[i] = Group.times(oldB[from], Group.power(jointKey, r));
            }
        }

        private int takeEntry(int which) {
            int before = which;
            for (int place = 0; place < entries; place++) {
                if (!taken[place]) {
                    if (before == 0) {
                        taken[place] = true;
                        return place;
                    }
                    before--;
                }
            }
            return 0;
        }

        void addShare(int place, int d) {
            shares[place] = Group.times(shares[place], d);
        }

        boolean allOpened() {
            return opened[0] && opened[1] && opened[2];
        }

        void countVotes() {
            for (int choice = 0; choice < CHOICES; choice++) {
                counts[choice] = 0;
            }
            for (int place = 0; place < entries; place++) {
                int value = Group.times(entryB[place], Group.inverse(shares[place]));
                for (int choice = 0; choice < CHOICES; choice++) {
                    if (value == Group.ofBase(choice)) {
                        counts[choice]++;
                    }
                }
            }
        }
    }

    /** Goes over the board's records again, and knows nothing but them. */
    private static final class Audit {
        private final Poll told = new Poll();
        private int reached;
        private int awaitedEntries;
        private int nextShare;
        private int sharer;

        int firstWrong(Board board) {
            reached = UNBEGUN;
            awaitedEntries = 0;
            nextShare = 0;
            for (int k = 0; k < board.size; k++) {
                if (!takes(board, k)) {
                    return k;
                }
            }
            return NONE;
        }

        private boolean takes(Board board, int k) {
            int kind = board.kind(k);
            if (awaitedEntries > 0) {
                return kind == ENTRY && takesEntry(board, k);
            }
            switch (kind) {
                case BEGUN:
                    return takesBegun(board, k);
                case VOTER:
                    return takesVoter(board, k);
                case BALLOT:
                    return takesBallot(board, k);
                case CLOSED:
                    return takesClosed(board, k);
                case MIXED:
                    return takesMixed(board, k);
                case SHARE:
                    return takesShare(board, k);
                case RESULT:
                    return takesResult(board, k);
                default:
                    return false;
            }
        }

        private static boolean isZeroFrom(Board board, int k, int first) {
            for (int f = first; f < Board.NUMBERS; f++) {
                if (board.number(k, f) != 0) {
                    return false;
                }
            }
            return true;
        }

        private boolean takesBegun(Board board, int k) {
            int key0 = board.number(k, 0);
            int key1 = board.number(k, 1);
            int key2 = board.number(k, 2);
            if (reached != UNBEGUN || !isZeroFrom(board, k, 3)) {
                return false;
            }
            if (!Group.isElement(key0) || !Group.isElement(key1) || !Group.isElement(key2)) {
                return false;
            }
            told.start(key0, key1, key2);
            reached = VOTING;
            return true;
        }

        private boolean takesVoter(Board board, int k) {
            int voter = board.number(k, 0);
            if (reached != VOTING || !isZeroFrom(board, k, 1) || !isVoter(voter) || told.registered[voter]) {
                return false;
            }
            told.registered[voter] = true;
            return true;
        }

        private boolean takesBallot(Board board, int k) {
            int voter = board.number(k, 0);
            int a = board.number(k, 1);
            int b = board.number(k, 2);
            if (reached != VOTING || !isZeroFrom(board, k, 3) || !isVoter(voter) || !told.registered[voter]) {
                return false;
            }
            if (!Group.isElement(a) || !Group.isElement(b)) {
                return false;
            }
            told.keepBallot(voter, a, b);
            return true;
        }

        // forged ballots may name more voters than there is room for entries: then closing could not be done
        private boolean takesClosed(Board board, int k) {
            if (reached != VOTING || !isZeroFrom(board, k, 0) || k + 1 + told.ballotVoters() > Board.ROOM) {
                return false;
            }
            told.gatherEntries();
            awaitedEntries = told.entries;
            reached = MIXING;
            return true;
        }

        private boolean takesMixed(Board board, int k) {
            int seed = board.number(k, 0);
            int order = board.number(k, 1);
            if (reached != MIXING || !isZeroFrom(board, k, 2) || !told.isOrder(order)) {
                return false;
            }
            told.mixEntries(seed, order);
            awaitedEntries = told.entries;
            return true;
        }

        private boolean takesEntry(Board board, int k) {
            int place = told.entries - awaitedEntries;
            if (!isZeroFrom(board, k, 2) || board.number(k, 0) != told.entryA[place]
                    || board.number(k, 1) != told.entryB[place]) {
                return false;
            }
            awaitedEntries--;
            return true;
        }

        private boolean takesShare(Board board, int k) {
            int trustee = board.number(k, 0);
            int place = board.number(k, 1);
            if ((reached != MIXING && reached != OPENING) || !isTrustee(trustee) || told.opened[trustee]) {
                return false;
            }
            if (nextShare >= told.entries || place != nextShare || (place > 0 && trustee != sharer)) {
                return false;
            }
            if (!provesShare(board, k, trustee, place)) {
                return false;
            }
            told.addShare(place, board.number(k, 2));
            reached = OPENING;
            sharer = trustee;
            nextShare++;
            if (nextShare == told.entries) {
                told.opened[trustee] = true;
                nextShare = 0;
            }
            return true;
        }

        private boolean provesShare(Board board, int k, int trustee, int place) {
            int d = board.number(k, 2);
            int s = board.number(k, 3);
            int t = board.number(k, 4);
            int u = board.number(k, 5);
            if (!Group.isElement(d) || !Group.isNumber(s) || !Group.isElement(t) || !Group.isElement(u)) {
                return false;
            }
            int key = told.keys[trustee];
            int a = told.entryA[place];
            int c = Digest.challenge(key, a, d, t, u);
            return Group.ofBase(s) == Group.times(t, Group.power(key, c))
                    && Group.power(a, s) == Group.times(u, Group.power(d, c));
        }

        // trustees who opened no entries at all left no record behind
        private boolean takesResult(Board board, int k) {
            if ((reached != MIXING && reached != OPENING) || !(told.entries == 0 || told.allOpened())) {
                return false;
            }
            told.countVotes();
            for (int choice = 0; choice < CHOICES; choice++) {
                if (board.number(k, choice) != told.counts[choice]) {
                    return false;
                }
            }
            reached = DONE;
            return isZeroFrom(board, k, CHOICES);
        }
    }

    /**
     * The proof that was made last. A proof follows a way down the tree: bit t of sides tells whether step t of
     * it goes on in the second part; the deepest digest stands first.
     */
    private static final class Proof {
        // a way down from the largest int has 31 steps, and one digest may stand below them
        static final int DEEPEST = 31;

        private final long[] digests = new long[DEEPEST + 1];
        private int count;
        private int steps;
        private long sides;

        // the greatest power of two less than n, which is 2 or more; 2 * m could be too great for an int
        private static int split(int n) {
            int m = 1;
            while (m < n - m) {
                m *= 2;
            }
            return m;
        }

        private void goDown(boolean second) {
            if (second) {
                sides |= 1L << steps;
            }
            steps++;
        }

        private boolean isSecond(int step) {
            return (sides >> step & 1L) == 1L;
        }

        private void goToRecord(int k, int n) {
            steps = 0;
            sides = 0L;
            int index = k;
            int width = n;
            for (int step = 0; step < DEEPEST && width > 1; step++) {
                int m = split(width);
                boolean second = index >= m;
                index = second ? index - m : index;
                width = second ? width - m : m;
                goDown(second);
            }
        }

        private void goToFirst(int j, int n) {
            steps = 0;
            sides = 0L;
            int index = j;
            int width = n;
            for (int step = 0; step < DEEPEST && index < width; step++) {
                int m = split(width);
                boolean second = index > m;
                index = second ? index - m : index;
                width = second ? width - m : m;
                goDown(second);
            }
        }

        // where the way never left the first parts, the head below it is the former head itself
        private int digestsBelow() {
            return sides == 0L ? 0 : 1;
        }

        int makeForRecord(Board board, int k, int n) {
            goToRecord(k, n);
            fill(board, n, 0);
            return count;
        }

        int makeForFirst(Board board, int j, int n) {
            goToFirst(j, n);
            fill(board, n, digestsBelow());
            return count;
        }

        private void fill(Board board, int n, int below) {
            count = steps + below;
            int from = 0;
            int width = n;
            for (int step = 0; step < steps; step++) {
                int m = split(width);
                if (isSecond(step)) {
                    digests[count - 1 - step] = board.headOf(from, m);
                    from += m;
                    width -= m;
                } else {
                    digests[count - 1 - step] = board.headOf(from + m, width - m);
                    width = m;
                }
            }
            if (below == 1) {
                digests[0] = board.headOf(from, width);
            }
        }

        boolean fitsRecord(int k, int n, long leaf, long head) {
            goToRecord(k, n);
            if (count != steps) {
                return false;
            }
            long made = leaf;
            for (int i = 0; i < count; i++) {
                boolean second = isSecond(steps - 1 - i);
                made = second ? Digest.ofParts(digests[i], made) : Digest.ofParts(made, digests[i]);
            }
            return made == head;
        }

        boolean fitsFirst(int j, int n, long before, long after) {
            goToFirst(j, n);
            int below = digestsBelow();
            if (count != steps + below) {
                return false;
            }
            long former = below == 1 ? digests[0] : before;
            long whole = former;
            for (int i = below; i < count; i++) {
                if (isSecond(count - 1 - i)) {
                    former = Digest.ofParts(digests[i], former);
                    whole = Digest.ofParts(digests[i], whole);
                } else {
                    whole = Digest.ofParts(whole, digests[i]);
                }
            }
            return former == before && whole == after;
        }
    }
}
