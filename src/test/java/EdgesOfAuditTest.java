import java.util.HashSet;
import java.util.Set;

/** Each sentence that names a boundary for the audit, promise 14. */
public final class EdgesOfAuditTest {
    private static final int MIN = Edges.MIN;
    private static final int MAX = Edges.MAX;
    private static final int P = 4079;
    private static final Set<Integer> ELEMENTS = new HashSet<>();

    static {
        for (int e = 1; ELEMENTS.add(e); e = e * 4 % P) {
            // the powers of 4, until they come round
        }
    }

    private EdgesOfAuditTest() {
    }

    public static void main(String[] args) {
        promise14NothingIsWrong();
        promise14EmptyAndFullBoard();
        promise14TheFirstThatIsWrong();
        promise14ChangesNothing();
        promise14NotNamedMustBeZero();
        promise14KeysMustBeElements();
        promise14VoterThatIsOneAndNotRegisteredYet();
        promise14BallotOfOneRegistered();
        promise14BallotOfElements();
        promise14ClosedHasRoomForItsEntries();
        promise14EntriesAreWhatTheyHaveToBe();
        promise14EntriesAreWaitedFor();
        promise14NoMoreEntriesThanMustCome();
        promise14MixedHasAnOrder();
        promise14MixedHasAnySeed();
        promise14ShareOfATrustee();
        promise14SharesInTheirOrder();
        promise14SharesOfATrusteeBehindOneAnother();
        promise14SharesOfElements();
        promise14ShareOfANumber();
        promise14SharesEquations();
        promise14ResultCounts();
        promise14ValuesThatAreVotes();
        Check.end();
    }

    /** Writes a number, audits, writes back what it was, and audits again. */
    private static void audited(String what, OpenPoll poll, int k, int field, int number, int due) {
        int was = poll.forge(k, field, number);
        Check.equal(what + ": " + number + " in field " + field + " of " + k, poll.audit(), due);
        Check.equal(what + ": written back", poll.forge(k, field, was), number);
    }

    private static void sound(String what, OpenPoll poll) {
        Check.equal(what + ": nothing is wrong", poll.audit(), -1);
    }

    // ---- the whole board

    /** "NONE when there is none such": for each state and all steps to come. */
    private static void promise14NothingIsWrong() {
        for (State state : State.values()) {
            OpenPoll poll = state.get();
            sound("audit in " + state, poll);
            Edges.goneOn(poll);
            sound("audit in " + state + ", gone on", poll);
        }
        for (int n = 0; n <= 10; n++) {
            for (int last = 0; last < 3; last++) {
                OpenPoll poll = Edges.closed(n);
                poll.mix(MIN, Edges.orders(n) - 1);
                poll.mix(MAX, 0);
                poll.open((last + 2) % 3, MAX);
                poll.open((last + 1) % 3, MIN);
                sound("audit of " + n + " with two opened", poll);
                poll.open(last, 0);
                poll.finish();
                sound("audit of " + n, poll);
            }
        }
    }

    private static void promise14EmptyAndFullBoard() {
        sound("audit of an empty board", new OpenPoll());
        for (State state : State.values()) {
            if (state.records == 160) {
                OpenPoll poll = state.get();
                audited("audit of a full board, " + state, poll, 159, 6, state.isOpening() ? 2 : 1, 159);
                audited("audit of a full board, " + state, poll, 0, 6, 1, 0);
                sound("audit of a full board, " + state, poll);
            }
        }
    }

    /** "The number of the first record that is wrong" */
    private static void promise14TheFirstThatIsWrong() {
        OpenPoll poll = State.DONE.get();
        for (int k = 18; k >= 0; k--) {
            poll.forge(k, 6, MIN);
            Check.equal("audit: all from " + k + " are wrong", poll.audit(), k);
        }
        for (int k = 0; k < 18; k++) {
            poll.forge(k, 6, State.DONE.get().field(k, 6));
            Check.equal("audit: all behind " + k + " are wrong", poll.audit(), k + 1);
        }
    }

    private static void promise14ChangesNothing() {
        for (State state : State.values()) {
            OpenPoll poll = state.get();
            OpenPoll twin = state.get();
            if (state.records > 0) {
                poll.forge(state.records / 2, 1, -1);
                poll.audit();
                poll.forge(state.records / 2, 1, twin.field(state.records / 2, 1));
            }
            poll.audit();
            Check.equal("the steps behind an audit in " + state, Edges.goneOn(poll), Edges.goneOn(twin));
        }
    }

    /** "Numbers that were not named must be 0." */
    private static void promise14NotNamedMustBeZero() {
        int[] named = {3, 1, 3, 0, 2, 2, 6, 4};
        for (State state : new State[] {State.DONE, State.DONE_EMPTY, State.VOTED, State.CLOSED}) {
            for (int number : new int[] {MIN, -1, 1, P, MAX}) {
                OpenPoll poll = state.get();
                for (int k = 0; k < state.records; k++) {
                    for (int field = named[poll.field(k, 0)] + 1; field <= 6; field++) {
                        audited("not named, in " + state, poll, k, field, number, k);
                    }
                }
                sound("not named, in " + state, poll);
            }
        }
    }

    // ---- BEGUN, VOTER, BALLOT

    /** "of BEGUN, the keys must be elements"; "ELEMENTS are those of 1 .. P - 1 that are powers of 4" */
    private static void promise14KeysMustBeElements() {
        Check.equal("the elements", ELEMENTS.size(), 2039);
        for (int field = 1; field <= 3; field++) {
            elementsIn("a key", State.BEGUN, 0, field);
        }
    }

    /** Each int near 1 .. P - 1, and the farthest ones, in a record behind which nothing stands. */
    private static void elementsIn(String what, State state, int k, int field) {
        for (int from = -50; from < 2 * P + 50; from += 100) {
            OpenPoll poll = state.get();
            for (int e = from; e < from + 100; e++) {
                audited(what, poll, k, field, e, ELEMENTS.contains(e) ? -1 : k);
            }
            sound(what, poll);
        }
        OpenPoll poll = state.get();
        for (int e : new int[] {MIN, MIN + 1, -P, 1 - P, 4 - P, 1 << 16, 1 << 30, MAX - 1, MAX}) {
            audited(what, poll, k, field, e, k);
        }
    }

    /** "of a VOTER that is one and not registered yet" */
    private static void promise14VoterThatIsOneAndNotRegisteredYet() {
        OpenPoll poll = State.REGISTERED.get();
        for (int voter : new int[] {MIN, -1, 0, 1, 10, 11, MAX}) {
            audited("the third voter", poll, 3, 1, voter, 3);
        }
        for (int voter = 2; voter <= 9; voter++) {
            audited("the third voter", poll, 3, 1, voter, -1);
        }
        for (int voter : new int[] {MIN, -1, 10, MAX}) {
            audited("the first voter", poll, 1, 1, voter, 1);
        }
        audited("the first voter, who comes again", poll, 1, 1, 1, 2);
        audited("the first voter, who comes again", poll, 1, 1, 2, 3);
        OpenPoll all = State.ALL_REGISTERED.get();
        for (int voter = 0; voter <= 8; voter++) {
            audited("the last of ten voters", all, 10, 1, voter, 10);
        }
    }

    /** "of BALLOT, the voter is registered": before it, that is. */
    private static void promise14BallotOfOneRegistered() {
        OpenPoll poll = State.VOTED.get();
        for (int voter = 0; voter <= 2; voter++) {
            audited("a ballot", poll, 5, 1, voter, -1);
        }
        for (int voter : new int[] {MIN, -1, 3, 4, 9, 10, MAX}) {
            audited("a ballot", poll, 5, 1, voter, 5);
        }
        OpenPoll later = State.REGISTERED.get();
        later.cast(0, 1, 1);
        later.register(3);
        later.cast(3, 1, 1);
        audited("a ballot of one who registers later", later, 4, 1, 3, 4);
        audited("a ballot of one who has registered", later, 6, 1, 2, -1);
        OpenPoll none = new OpenPoll();
        none.begin(1, 1, 1);
        none.register(9);
        none.cast(9, 0, 0);
        audited("the voter of a ballot forged away", none, 1, 1, 0, 2);
    }

    /** "A and B are elements" */
    private static void promise14BallotOfElements() {
        elementsIn("a ballot's A", State.VOTED, 5, 2);
        elementsIn("a ballot's B", State.VOTED, 5, 3);
    }

    // ---- CLOSED, ENTRY

    /** "A step that would need more records than there is room for is not done": so it could not stand there. */
    private static void promise14ClosedHasRoomForItsEntries() {
        OpenPoll poll = new OpenPoll();
        poll.begin(5, 7, 11);
        poll.register(0);
        poll.register(1);
        poll.register(2);
        while (poll.records() < 157) {
            poll.cast(0, 1, 1);
        }
        poll.close();
        Check.equal("one entry, one record to come: records()", poll.records(), 159);
        sound("one entry, one record to come", poll);
        poll.forge(10, 1, 1);
        sound("another entry is waited for", poll);
        audited("there is no room for a third entry", poll, 11, 1, 2, 157);
        sound("another entry is waited for still", poll);
    }

    /** "an ENTRY for each voter who cast a ballot, by their numbers, with A and B of the last one"; those of MIXED. */
    private static void promise14EntriesAreWhatTheyHaveToBe() {
        OpenPoll poll = State.DONE.get();
        for (int k : new int[] {7, 8, 10, 11}) {
            for (int field = 1; field <= 2; field++) {
                int due = poll.field(k, field);
                for (int number : new int[] {MIN, 0, 1, due - 1, due + 1, due - P, due + P, P - due, MAX}) {
                    audited("an entry", poll, k, field, number, k);
                }
            }
        }
        sound("an entry", poll);
        OpenPoll two = State.CLOSED.get();
        int firstA = two.field(7, 1);
        int firstB = two.field(7, 2);
        two.forge(7, 1, two.field(8, 1));
        two.forge(7, 2, two.field(8, 2));
        two.forge(8, 1, firstA);
        two.forge(8, 2, firstB);
        Check.equal("two entries changed about", two.audit(), 7);
        two.forge(4, 1, 1);
        two.forge(5, 1, 0);
        sound("two entries changed about, and their ballots", two);
        OpenPoll ten = State.CLOSED_ALL.get();
        for (int k = 22; k <= 31; k++) {
            audited("one of ten entries", ten, k, 1, ten.field(k, 2), k);
            audited("one of ten entries", ten, k, 2, ten.field(k, 1), k);
        }
        OpenPoll last = new OpenPoll();
        last.begin(1, 2, 3);
        last.register(3);
        last.cast(3, 0, 5);
        last.cast(3, 1, 6);
        last.close();
        int a = last.field(2, 2);
        last.forge(2, 2, 4);
        sound("the first ballot is not the last one", last);
        last.forge(2, 2, a);
        last.forge(5, 1, a);
        Check.equal("an entry of the first ballot", last.audit(), 5);
    }

    /** Voter 0 has cast two ballots and there is one entry; the second is then forged into one of voter 1. */
    private static OpenPoll oneEntryOfTwo() {
        OpenPoll poll = new OpenPoll();
        poll.begin(6, 6, 6);
        poll.register(0);
        poll.register(1);
        poll.cast(0, 2, 5);
        poll.cast(0, 2, 5);
        poll.close();
        return poll;
    }

    /** "ENTRIES that must come are waited for: no other record can come before." */
    private static void promise14EntriesAreWaitedFor() {
        OpenPoll closed = oneEntryOfTwo();
        closed.forge(4, 1, 1);
        sound("an entry that may come yet", closed);
        OpenPoll mixed = oneEntryOfTwo();
        mixed.mix(1, 0);
        sound("mixed", mixed);
        audited("MIXED where an entry is due", mixed, 4, 1, 1, 7);
        OpenPoll opened = oneEntryOfTwo();
        opened.open(0, 0);
        sound("opened", opened);
        audited("SHARE where an entry is due", opened, 4, 1, 1, 7);
        OpenPoll again = State.MIXED.get();
        audited("another MIXED behind one entry too few", again, 5, 1, 0, 7);
    }

    /** With both ballots of one voter there is one entry, and none can come behind it. */
    private static void promise14NoMoreEntriesThanMustCome() {
        OpenPoll poll = State.CLOSED.get();
        poll.forge(4, 1, 1);
        poll.forge(7, 1, poll.field(5, 2));
        poll.forge(7, 2, poll.field(5, 3));
        Check.equal("a second entry where one is due", poll.audit(), 8);
        OpenPoll ten = State.CLOSED_ALL.get();
        ten.forge(20, 1, 0);
        ten.forge(22, 1, ten.field(20, 2));
        ten.forge(22, 2, ten.field(20, 3));
        Check.equal("a tenth entry where nine are due", ten.audit(), 31);
    }

    // ---- MIXED

    /** "of MIXED, that f(1) is an order": 0 .. n! - 1 */
    private static void promise14MixedHasAnOrder() {
        for (int n = 0; n <= 10; n++) {
            OpenPoll poll = Edges.closed(n);
            int k = poll.records();
            poll.mix(3, 0);
            int orders = Edges.orders(n);
            for (int order : new int[] {MIN, -orders, -1, orders, orders + 1, MAX}) {
                audited("MIXED of " + n, poll, k, 2, order, k);
            }
            if (n >= 2) {
                audited("MIXED of " + n + ", by another order", poll, k, 2, orders - 1, k + 1);
            }
            OpenPoll twin = Edges.closed(n);
            twin.mix(3, orders - 1);
            poll.forge(k, 2, orders - 1);
            for (int place = 1; place <= n; place++) {
                poll.forge(k + place, 1, twin.field(k + place, 1));
                poll.forge(k + place, 2, twin.field(k + place, 2));
            }
            sound("MIXED of " + n + " by the last order, and its entries", poll);
        }
    }

    /** Nothing is said of f(0): any int is a seed. */
    private static void promise14MixedHasAnySeed() {
        OpenPoll none = State.DONE_EMPTY.get();
        OpenPoll empty = State.CLOSED_EMPTY.get();
        empty.mix(0, 0);
        for (int seed : Edges.SEEDS) {
            audited("MIXED of none", empty, 5, 1, seed, -1);
            OpenPoll poll = State.CLOSED.get();
            OpenPoll twin = State.CLOSED.get();
            poll.mix(5, 1);
            twin.mix(seed, 1);
            poll.forge(9, 1, seed);
            Check.equal("MIXED with another seed", poll.audit(), 10);
            for (int k = 10; k <= 11; k++) {
                poll.forge(k, 1, twin.field(k, 1));
                poll.forge(k, 2, twin.field(k, 2));
            }
            sound("MIXED with another seed, and its entries", poll);
        }
        sound("MIXED of none", none);
    }

    // ---- SHARE

    /** Two entries, opened by all three with one secret: so each one's shares could be another's. */
    private static OpenPoll oneSecret(int n) {
        OpenPoll poll = new OpenPoll();
        poll.begin(6, 6, 6);
        for (int voter = 0; voter < n; voter++) {
            poll.register(voter);
            poll.cast(voter, voter % 4, 5 + voter);
        }
        poll.close();
        for (int trustee = 0; trustee < 3; trustee++) {
            poll.open(trustee, 1);
        }
        return poll;
    }

    /** "a SHARE'S trustee has not opened before"; "TRUSTEES 0 .. 2" */
    private static void promise14ShareOfATrustee() {
        OpenPoll poll = oneSecret(1);
        for (int trustee : new int[] {MIN, -1, 3, 4, MAX}) {
            for (int k = 5; k <= 7; k++) {
                audited("a trustee", poll, k, 1, trustee, k);
            }
        }
        audited("a trustee who has opened", poll, 6, 1, 0, 6);
        audited("a trustee who has opened", poll, 7, 1, 0, 7);
        audited("a trustee who has opened", poll, 7, 1, 1, 7);
        audited("a trustee who opens later", poll, 5, 1, 2, 7);
        poll.forge(5, 1, 2);
        poll.forge(7, 1, 0);
        sound("the first and the last trustee changed about", poll);
        OpenPoll one = State.OPENED_ONE.get();
        audited("another one's share", one, 12, 1, 1, 12);
        audited("another one's share", one, 12, 1, 2, 12);
    }

    /** "they come for all entries in their order" */
    private static void promise14SharesInTheirOrder() {
        OpenPoll poll = oneSecret(2);
        int first = poll.records() - 6;
        for (int k = first; k < first + 6; k++) {
            int place = poll.field(k, 2);
            for (int other : new int[] {MIN, -1, 1 - place, 2, 3, MAX}) {
                audited("a place", poll, k, 2, other, k);
            }
        }
        OpenPoll changed = oneSecret(2);
        for (int field = 2; field <= 6; field++) {
            int was = changed.forge(first, field, changed.field(first + 1, field));
            changed.forge(first + 1, field, was);
        }
        Check.equal("the second share before the first", changed.audit(), first);
        OpenPoll ten = oneSecret(10);
        int last = ten.records() - 1;
        audited("the last share of ten", ten, last, 2, 8, last);
        audited("the last share of ten", ten, last, 2, 10, last);
        audited("the tenth share of ten", ten, last - 20, 2, 8, last - 20);
    }

    /** "one trustee's behind one another" */
    private static void promise14SharesOfATrusteeBehindOneAnother() {
        OpenPoll poll = oneSecret(2);
        int first = poll.records() - 6;
        for (int row = 0; row < 3; row++) {
            for (int trustee = 0; trustee < 3; trustee++) {
                if (trustee != row) {
                    audited("another trustee amidst", poll, first + 2 * row + 1, 1, trustee, first + 2 * row + 1);
                }
            }
        }
        audited("another trustee at first", poll, first, 1, 1, first + 1);
        poll.forge(first, 1, 1);
        poll.forge(first + 1, 1, 1);
        Check.equal("a trustee who opens twice", poll.audit(), first + 2);
        poll.forge(first + 2, 1, 0);
        Check.equal("another trustee behind one of 0", poll.audit(), first + 3);
        poll.forge(first + 3, 1, 0);
        sound("two trustees changed about", poll);
    }

    /** Opened by trustee 0 alone: with the secret x, an entry whose A is 4^r, and k for the share. */
    private static OpenPoll share(int x, int r, int d, int s, int t, int u) {
        OpenPoll poll = new OpenPoll();
        poll.begin(x, 1, 2);
        poll.register(0);
        poll.cast(0, 3, r);
        poll.close();
        poll.open(0, 1);
        poll.forge(5, 3, d);
        poll.forge(5, 4, s);
        poll.forge(5, 5, t);
        poll.forge(5, 6, u);
        return poll;
    }

    private static int challenge(int x, int r, int d, int t, int u) {
        return Edges.digestNumber(Model.power(4, x), Model.power(4, r), d, t, u);
    }

    /** "D, t and u are elements": 1 is the least; what is less or more by P, or by a sign, is none. */
    private static void promise14SharesOfElements() {
        // the secret 0 and the number 0 make them all 1, so that they fit whatever c is
        sound("D, t and u are 1", share(0, 10, 1, 0, 1, 1));
        for (int by : new int[] {-P, P, 2 * P, (MAX - 1) / P * P, -(MAX / P) * P}) {
            Check.equal("D is 1 and " + by, share(0, 10, 1 + by, 0, 1, 1).audit(), 5);
            Check.equal("t is 1 and " + by, share(0, 10, 1, 0, 1 + by, 1).audit(), 5);
            Check.equal("u is 1 and " + by, share(0, 10, 1, 0, 1, 1 + by).audit(), 5);
        }
        for (int no : new int[] {MIN, -1, 0, 4078, 4079, MAX}) {
            Check.equal("D is " + no, share(0, 10, no, 0, 1, 1).audit(), 5);
            Check.equal("t is " + no, share(0, 10, 1, 0, no, 1).audit(), 5);
            Check.equal("u is " + no, share(0, 10, 1, 0, 1, no).audit(), 5);
        }
        // with c even, (-D)^c is D^c: then D's being no element is all that is wrong
        int found = 0;
        for (int k = 0; k < 60; k++) {
            int d = P - Model.power(4, 70);
            int t = Model.power(4, k);
            int u = Model.power(4, 10 * k);
            int c = challenge(7, 10, d, t, u);
            found += c % 2 == 0 ? 1 : 0;
            Check.equal("D is no element, c is " + c, share(7, 10, d, (k + 7 * c) % 2039, t, u).audit(), 5);
        }
        Check.isTrue("some c were even", found > 0);
    }

    /** "s is a number": 0 .. Q - 1 */
    private static void promise14ShareOfANumber() {
        for (int s : new int[] {0, 1, 1019, 2037, 2038}) {
            int t = Model.power(4, s);
            int u = Model.power(4, 10 * s);
            sound("s is " + s, share(0, 10, 1, s, t, u));
            for (int by : new int[] {-2039, 2039, 2 * 2039, 2039 * 1000000, -2039 * 1000000}) {
                Check.equal("s is " + s + " and " + by, share(0, 10, 1, s + by, t, u).audit(), 5);
            }
        }
        for (int s : new int[] {MIN, -1, 2039, MAX}) {
            Check.equal("s is " + s, share(0, 10, 1, s, 1, 1).audit(), 5);
        }
    }

    /** "4^s = t * y^c and A^s = u * D^c (k and x are not asked for)" */
    private static void promise14SharesEquations() {
        for (int k : new int[] {0, 1, 1019, 2037, 2038}) {
            int d = Model.power(4, 70);
            int t = Model.power(4, k);
            int u = Model.power(4, 10 * k);
            int c = challenge(7, 10, d, t, u);
            int s = (k + 7 * c) % 2039;
            sound("the share by another k, " + k, share(7, 10, d, s, t, u));
            Check.equal("s and 1", share(7, 10, d, (s + 1) % 2039, t, u).audit(), 5);
            int otherD = Model.power(4, 71);
            c = challenge(7, 10, otherD, t, u);
            Check.equal("another D", share(7, 10, otherD, (k + 7 * c) % 2039, t, u).audit(), 5);
            int otherT = Model.power(4, k + 1);
            c = challenge(7, 10, d, otherT, u);
            Check.equal("another t", share(7, 10, d, (k + 7 * c) % 2039, otherT, u).audit(), 5);
            int otherU = Model.power(4, 10 * k + 1);
            c = challenge(7, 10, d, t, otherU);
            Check.equal("another u", share(7, 10, d, (k + 7 * c) % 2039, t, otherU).audit(), 5);
        }
        // where A is 1, all that is due of D and u is that they are 1
        int t = Model.power(4, 3);
        int c = challenge(7, 0, 1, t, 1);
        sound("A is 1", share(7, 0, 1, (3 + 7 * c) % 2039, t, 1));
        c = challenge(7, 0, 4, t, 1);
        Check.equal("A is 1, D is 4", share(7, 0, 4, (3 + 7 * c) % 2039, t, 1).audit(), 5);
    }

    // ---- RESULT

    /** "how many votes for each choice" */
    private static void promise14ResultCounts() {
        for (State state : new State[] {State.DONE_EMPTY, State.DONE, State.DONE_ALL, State.DONE_FULL}) {
            OpenPoll poll = state.get();
            int last = state.records - 1;
            for (int field = 1; field <= 4; field++) {
                int due = poll.field(last, field);
                for (int number : new int[] {MIN, -1, due - 1, due + 1, 11, MAX}) {
                    audited("a count in " + state, poll, last, field, number, last);
                }
            }
            sound("a count in " + state, poll);
        }
        OpenPoll changed = State.DONE.get();
        changed.forge(18, 1, 0);
        changed.forge(18, 3, 1);
        Check.equal("a vote for 0 told as one for 2", changed.audit(), 18);
    }

    /** "a value 4^c, c a choice, is a vote for c, others are none": 4^-1 and 4^4 are the first that are none. */
    private static void promise14ValuesThatAreVotes() {
        for (int c = -3; c <= 7; c++) {
            OpenPoll poll = Edges.opened(1, 0);
            poll.finish();
            int b = Model.power(4, c + 230);
            poll.forge(2, 3, b);
            poll.forge(4, 2, b);
            poll.forge(8, 1, 0);
            boolean isVote = c >= 0 && c <= 3;
            Check.equal("the value 4^" + c + ", no vote told", poll.audit(), isVote ? 8 : -1);
            for (int choice = 0; choice <= 3; choice++) {
                audited("the value 4^" + c + ", a vote told", poll, 8, 1 + choice, 1, choice == c ? -1 : 8);
            }
        }
        // seven of ten votes told for choices, three for none
        OpenPoll ten = State.DONE_EMPTY.get();
        ten.begin(0, 0, 0);
        for (int voter = 0; voter < 10; voter++) {
            ten.register(voter);
            ten.cast(voter, 0, 0);
        }
        ten.close();
        for (int trustee = 0; trustee < 3; trustee++) {
            ten.open(trustee, 1);
        }
        ten.finish();
        int result = ten.records() - 1;
        int[] values = {1, 4, 16, 64, 256, 1020, 1, 4, 16, 1024};
        for (int voter = 0; voter < 10; voter++) {
            ten.forge(2 + 2 * voter, 3, values[voter]);
            ten.forge(22 + voter, 2, values[voter]);
        }
        Check.equal("ten values, all told for 0", ten.audit(), result);
        for (int field = 1; field <= 4; field++) {
            ten.forge(result, field, field == 4 ? 1 : 2);
        }
        sound("ten values, seven of them votes", ten);
    }
}
