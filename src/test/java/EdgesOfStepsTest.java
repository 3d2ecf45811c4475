import java.util.Arrays;

/** Each sentence that names a boundary for the terms or the promises 1 to 8, by the promise's number. */
public final class EdgesOfStepsTest {
    private static final int MIN = Edges.MIN;
    private static final int MAX = Edges.MAX;

    private EdgesOfStepsTest() {
    }

    public static void main(String[] args) {
        theStatesAreWhatTheySay();
        promise1EmptyBoardPhaseNoneNoProof();
        promise1EachObjectByItself();
        promise1CallNumber512();
        promise2LeastAndGreatestSecrets();
        promise2NoNumber();
        promise2WhateverThereWas();
        promise2OfTwoThatFitTheFirstNamedIsThrown();
        promise3FirstAndLastVoter();
        promise3NoSuchVoter();
        promise3NotVoting();
        promise3RegisteredBefore();
        promise3Room();
        promise4LeastAndGreatest();
        promise4NoSuchVoterOrChoiceOrNumber();
        promise4NotVoting();
        promise4NotRegistered();
        promise4Room();
        promise5NoneAndTenEntries();
        promise5ByNumbersAndTheLastBallots();
        promise5NotVoting();
        promise5Room();
        promise6FirstAndLastOrder();
        promise6OrdersAmidst();
        promise6EachSeed();
        promise6NotMixing();
        promise6NoOrder();
        promise6Room();
        promise7FirstAndLastTrustee();
        promise7LeastAndGreatestSecrets();
        promise7EachSeed();
        promise7NoneAndTenEntries();
        promise7NoSuchTrustee();
        promise7NotMixingOrOpening();
        promise7OpenedBefore();
        promise7Room();
        promise8NoneAndTenVotes();
        promise8FirstAndLastChoice();
        promise8NotAllHaveOpened();
        promise8DoneBefore();
        promise8Room();
        Check.end();
    }

    private static void theStatesAreWhatTheySay() {
        for (State state : State.values()) {
            OpenPoll poll = state.get();
            Check.equal("the phase in " + state, poll.phase(), state.phase);
            Check.equal("the records in " + state, poll.records(), state.records);
        }
    }

    // ---- promise 1

    /** "An empty board, the phase NONE, no proof." */
    private static void promise1EmptyBoardPhaseNoneNoProof() {
        OpenPoll poll = new OpenPoll();
        Check.equal("new: phase()", poll.phase(), 0);
        Check.equal("new: records()", poll.records(), 0);
        Check.equal("new: head(0)", poll.head(0), 0L);
        Check.equal("new: audit()", poll.audit(), OpenPoll.NONE);
        for (int i : new int[] {MIN, -1, 0, 1, 31, 32, MAX}) {
            Check.outOfBounds("new: proof(" + i + ")", () -> poll.proof(i));
            Check.outOfBounds("new: field(" + i + ", 0)", () -> poll.field(i, 0));
        }
    }

    private static void promise1EachObjectByItself() {
        OpenPoll busy = State.DONE_ALL.get();
        busy.relate(3, 74);
        OpenPoll fresh = new OpenPoll();
        Check.equal("new beside a busy one: phase()", fresh.phase(), 0);
        Check.equal("new beside a busy one: records()", fresh.records(), 0);
        Check.outOfBounds("new beside a busy one: proof(0)", () -> fresh.proof(0));
        String before = Edges.shown(busy);
        fresh.begin(1, 2, 3);
        fresh.prove(0, 1);
        Check.equal("a busy one beside a new one", Edges.shown(busy), before);
    }

    /** "An object is used for at most 512 calls after it has been made": the last of them is answered like the first. */
    private static void promise1CallNumber512() {
        OpenPoll poll = new OpenPoll();
        poll.begin(5, 7, 11);
        poll.register(0);
        for (int call = 3; call <= 160; call++) {
            poll.cast(0, 1, 1);
        }
        long head = State.VOTED_FULL.get().head(1);
        for (int call = 161; call <= 510; call++) {
            Check.equal("call " + call + ", head(1)", poll.head(1), head);
        }
        Check.equal("call 511, forge", poll.forge(159, 1, 3), 0);
        Check.equal("call 512, audit", poll.audit(), 159);
    }

    // ---- promise 2

    /** "NUMBERS are 0 .. Q - 1" */
    private static void promise2LeastAndGreatestSecrets() {
        int[] secrets = {0, 2038};
        // 4 * 1020 is 4080, which is 1 modulo P
        int[] keys = {1, 1020};
        for (int which = 0; which < 8; which++) {
            int x = which & 1;
            int y = which >> 1 & 1;
            int z = which >> 2;
            OpenPoll poll = new OpenPoll();
            poll.begin(secrets[x], secrets[y], secrets[z]);
            Edges.record("begin with the least and the greatest", poll, 0, 0, keys[x], keys[y], keys[z]);
            Check.equal("begin with the least and the greatest: audit()", poll.audit(), -1);
        }
        int key = 1;
        for (int secret = 0; secret < 2039; secret++) {
            OpenPoll poll = new OpenPoll();
            poll.begin(0, secret, 0);
            Check.equal("the key of " + secret, poll.field(0, 2), key);
            key = key * 4 % 4079;
        }
        Check.equal("the key of Q would be that of 0", key, 1);
    }

    /** "IllegalArgumentException when one is no number. (A call that throws changes nothing ..)" */
    private static void promise2NoNumber() {
        for (State state : State.values()) {
            for (int no : Edges.NO_NUMBERS) {
                Edges.illegalArgument(state, "begin(" + no + ", 1, 2)", poll -> poll.begin(no, 1, 2));
                Edges.illegalArgument(state, "begin(1, " + no + ", 2)", poll -> poll.begin(1, no, 2));
                Edges.illegalArgument(state, "begin(1, 2, " + no + ")", poll -> poll.begin(1, 2, no));
            }
            Edges.illegalArgument(state, "begin(-1, 2039, -1)", poll -> poll.begin(-1, 2039, -1));
        }
    }

    /** "Begins a poll with the secrets of the trustees, whatever there was." */
    private static void promise2WhateverThereWas() {
        OpenPoll first = new OpenPoll();
        first.begin(0, 2038, 1);
        String due = Edges.shown(first);
        String later = votedAnew(first);
        for (State state : State.values()) {
            OpenPoll poll = state.get();
            poll.begin(0, 2038, 1);
            Edges.record("begin in " + state, poll, 0, 0, 1, 1020, 4);
            Check.equal("begin in " + state, Edges.shown(poll), due);
            Check.equal("begin in " + state + ": how it goes on", votedAnew(poll), later);
        }
    }

    private static String votedAnew(OpenPoll poll) {
        for (int voter = 0; voter < 10; voter++) {
            int one = voter;
            Check.illegalState("not registered any more: " + voter, () -> poll.cast(one, 0, 0));
        }
        poll.register(4);
        poll.cast(4, 2, 8);
        return Edges.goneOn(poll);
    }

    /** "of two that fit, the one named first is thrown" */
    private static void promise2OfTwoThatFitTheFirstNamedIsThrown() {
        Edges.illegalArgument(State.NEW, "register(10)", poll -> poll.register(10));
        Edges.illegalArgument(State.VOTED_FULL, "register(-1)", poll -> poll.register(-1));
        Edges.illegalState(State.VOTED_FULL, "register(0), registered", poll -> poll.register(0));
        Edges.illegalState(State.CLOSED_FULL, "register(9), not voting", poll -> poll.register(9));
        Edges.illegalArgument(State.NEW, "cast(0, 4, 0)", poll -> poll.cast(0, 4, 0));
        Edges.illegalArgument(State.VOTED_FULL, "cast(0, 0, 2039)", poll -> poll.cast(0, 0, 2039));
        Edges.illegalState(State.VOTED_FULL, "cast(9, 0, 0), not registered", poll -> poll.cast(9, 0, 0));
        Edges.illegalState(State.CLOSED_FULL, "cast(0, 0, 0), not voting", poll -> poll.cast(0, 0, 0));
        Edges.illegalState(State.CLOSED_FULL, "close(), not voting", OpenPoll::close);
        Edges.illegalState(State.VOTED_FULL, "mix(0, -1), not mixing", poll -> poll.mix(0, -1));
        Edges.illegalState(State.OPENED_FULL, "mix(0, 0), not mixing", poll -> poll.mix(0, 0));
        Edges.illegalArgument(State.MIXED_TIGHT, "mix(0, 2), no order", poll -> poll.mix(0, 2));
        Edges.illegalArgument(State.NEW, "open(3, 0)", poll -> poll.open(3, 0));
        Edges.illegalArgument(State.MIXED_TIGHT, "open(-1, 0)", poll -> poll.open(-1, 0));
        Edges.illegalState(State.OPENED_ONE_TIGHT, "open(0, 0), opened", poll -> poll.open(0, 0));
        Edges.illegalState(State.VOTED_FULL, "open(0, 0), voting", poll -> poll.open(0, 0));
        Edges.illegalState(State.OPENED_TWO_EMPTY_FULL, "finish(), not all", OpenPoll::finish);
        Edges.illegalState(State.DONE_FULL, "finish(), done", OpenPoll::finish);
    }

    // ---- promise 3

    /** "VOTERS are 0 .. 9" */
    private static void promise3FirstAndLastVoter() {
        for (int voter = 0; voter <= 9; voter++) {
            int one = voter;
            OpenPoll poll = Edges.taken("BEGUN", State.BEGUN, "register(" + voter + ")", p -> p.register(one));
            Check.equal("register(" + voter + "): records()", poll.records(), 2);
            Edges.record("register(" + voter + ")", poll, 1, 1, voter);
            Check.equal("register(" + voter + "): audit()", poll.audit(), -1);
        }
        OpenPoll all = Edges.taken("BEGUN_AGAIN", State.BEGUN_AGAIN, "register(9)", p -> p.register(9));
        for (int voter = 8; voter >= 0; voter--) {
            all.register(voter);
        }
        Check.equal("register: all ten", all.records(), 11);
    }

    /** "IllegalArgumentException when there is no such" */
    private static void promise3NoSuchVoter() {
        for (State state : State.values()) {
            for (int no : Edges.NO_VOTERS) {
                Edges.illegalArgument(state, "register(" + no + ")", poll -> poll.register(no));
            }
        }
    }

    /** "IllegalStateException when it is not VOTING" */
    private static void promise3NotVoting() {
        for (State state : State.values()) {
            for (int voter = 0; voter <= 9 && !state.isVoting(); voter++) {
                int one = voter;
                Edges.illegalState(state, "register(" + voter + ")", poll -> poll.register(one));
            }
        }
    }

    /** "or the voter is registered" */
    private static void promise3RegisteredBefore() {
        for (State state : State.values()) {
            for (int voter = 0; voter < state.registered && state.isVoting(); voter++) {
                int one = voter;
                Edges.illegalState(state, "register(" + voter + ")", poll -> poll.register(one));
            }
            if (state.isVoting() && state.registered < 10 && state.room() > 0) {
                Edges.taken(state.toString(), state, "register, the first that is not registered",
                    poll -> poll.register(state.registered));
            }
        }
    }

    /** "UnsupportedOperationException when there is no room"; "THE BOARD has up to 160 RECORDS" */
    private static void promise3Room() {
        for (int voter = 3; voter <= 9; voter++) {
            int one = voter;
            Edges.noRoom(State.VOTED_FULL, "register(" + voter + ")", poll -> poll.register(one));
            OpenPoll last = Edges.taken("VOTED_ONE_LEFT", State.VOTED_ONE_LEFT, "register(" + voter + ")",
                poll -> poll.register(one));
            Check.equal("register in the last room: records()", last.records(), 160);
            Edges.record("register in the last room", last, 159, 1, voter);
            Check.illegalState("register in the last room: it is registered", () -> last.register(one));
        }
    }

    // ---- promise 4

    /** "VOTERS are 0 .. 9, CHOICES 0 .. 3"; "NUMBERS are 0 .. Q - 1"; "answers the record's number" */
    private static void promise4LeastAndGreatest() {
        int[] numbers = {0, 1, 2037, 2038};
        for (int voter = 0; voter <= 9; voter++) {
            OpenPoll poll = State.ALL_REGISTERED.get();
            int k = 11;
            for (int choice = 0; choice <= 3; choice++) {
                for (int r : numbers) {
                    Check.equal("cast answers", poll.cast(voter, choice, r), k);
                    Edges.record("cast(" + voter + ", " + choice + ", " + r + ")", poll, k, 2, voter,
                        Model.power(4, r), Model.power(4, choice + 23 * r));
                    k++;
                }
            }
            Check.equal("cast: records()", poll.records(), k);
            Check.equal("cast: audit()", poll.audit(), -1);
        }
        OpenPoll known = State.REGISTERED.get();
        known.cast(0, 0, 0);
        known.cast(0, 3, 0);
        Edges.record("cast(0, 0, 0)", known, 4, 2, 0, 1, 1);
        Edges.record("cast(0, 3, 0)", known, 5, 2, 0, 1, 64);
    }

    /** "IllegalArgumentException when there is no such voter or choice, or r is no number" */
    private static void promise4NoSuchVoterOrChoiceOrNumber() {
        for (State state : State.values()) {
            for (int no : Edges.NO_VOTERS) {
                Edges.illegalArgument(state, "cast(" + no + ", 0, 0)", poll -> poll.cast(no, 0, 0));
            }
            for (int no : Edges.NO_CHOICES) {
                Edges.illegalArgument(state, "cast(0, " + no + ", 0)", poll -> poll.cast(0, no, 0));
                Edges.illegalArgument(state, "cast(9, " + no + ", 0)", poll -> poll.cast(9, no, 0));
            }
            for (int no : Edges.NO_NUMBERS) {
                Edges.illegalArgument(state, "cast(0, 0, " + no + ")", poll -> poll.cast(0, 0, no));
                Edges.illegalArgument(state, "cast(9, 3, " + no + ")", poll -> poll.cast(9, 3, no));
            }
        }
    }

    /** "IllegalStateException when it is not VOTING" */
    private static void promise4NotVoting() {
        for (State state : State.values()) {
            for (int voter = 0; voter <= 9 && !state.isVoting(); voter++) {
                int one = voter;
                Edges.illegalState(state, "cast(" + voter + ", 3, 2038)", poll -> poll.cast(one, 3, 2038));
            }
        }
    }

    /** "or the voter is not registered" */
    private static void promise4NotRegistered() {
        for (State state : State.values()) {
            for (int voter = state.registered; voter <= 9 && state.isVoting(); voter++) {
                int one = voter;
                Edges.illegalState(state, "cast(" + voter + ", 0, 0)", poll -> poll.cast(one, 0, 0));
            }
            if (state.isVoting() && state.registered > 0 && state.room() > 0) {
                Edges.taken(state.toString(), state, "cast of the last that is registered",
                    poll -> poll.cast(state.registered - 1, 0, 0));
            }
        }
    }

    /** "UnsupportedOperationException when there is no room" */
    private static void promise4Room() {
        for (int voter = 0; voter < 3; voter++) {
            int one = voter;
            Edges.noRoom(State.VOTED_FULL, "cast(" + voter + ", 1, 1)", poll -> poll.cast(one, 1, 1));
            OpenPoll last = State.VOTED_ONE_LEFT.get();
            Check.equal("cast answers in the last room", last.cast(voter, 0, 0), 159);
            Edges.record("cast in the last room", last, 159, 2, voter, 1, 1);
            Check.equal("cast in the last room: records()", last.records(), 160);
            Check.noRoom("cast behind the last room", () -> last.cast(one, 0, 0));
        }
    }

    // ---- promise 5

    /** "answers n"; "it puts CLOSED on the board, and an ENTRY for each voter who cast a ballot" */
    private static void promise5NoneAndTenEntries() {
        for (int n = 0; n <= 10; n++) {
            OpenPoll poll = Edges.voted(n, 0);
            int before = poll.records();
            Check.equal("close with " + n, poll.close(), n);
            Check.equal("close with " + n + ": phase()", poll.phase(), 2);
            Check.equal("close with " + n + ": records()", poll.records(), before + 1 + n);
            Edges.record("close with " + n, poll, before, 3);
            for (int place = 0; place < n; place++) {
                int r = 10 + place;
                Edges.record("close with " + n, poll, before + 1 + place, 5, Model.power(4, r),
                    Model.power(4, place % 4 + 23 * r));
            }
            Check.equal("close with " + n + ": audit()", poll.audit(), -1);
        }
        Check.equal("close: all registered, nobody has voted", State.ALL_REGISTERED.get().close(), 0);
        Check.equal("close: begun again, nobody has voted", State.BEGUN_AGAIN.get().close(), 0);
    }

    /** "by their numbers, with A and B of the last one" */
    private static void promise5ByNumbersAndTheLastBallots() {
        OpenPoll poll = State.ALL_REGISTERED.get();
        for (int voter = 9; voter >= 0; voter--) {
            poll.cast(voter, 3, 2038);
        }
        for (int voter = 9; voter >= 0; voter -= 9) {
            poll.cast(voter, 1, 4 + voter);
            poll.cast(voter, 0, voter);
        }
        Check.equal("close: ballots backwards", poll.close(), 10);
        int k = 11 + 10 + 4 + 1;
        for (int voter = 0; voter <= 9; voter++) {
            boolean again = voter == 0 || voter == 9;
            int r = again ? voter : 2038;
            Edges.record("close: voter " + voter, poll, k + voter, 5, Model.power(4, r),
                Model.power(4, (again ? 0 : 3) + 23 * r));
        }
    }

    /** "IllegalStateException when it is not VOTING" */
    private static void promise5NotVoting() {
        for (State state : State.values()) {
            if (!state.isVoting()) {
                Edges.illegalState(state, "close()", OpenPoll::close);
            }
        }
    }

    /** "UnsupportedOperationException when there is no room"; "A step that would need more records .. is not done." */
    private static void promise5Room() {
        for (int n = 1; n <= 10; n++) {
            int voters = n;
            for (int records = 160 - n; records <= 160; records++) {
                int before = records;
                Edges.refused("UnsupportedOperationException", n + " voted, " + records + " records",
                    () -> Edges.voted(voters, before), "close()", OpenPoll::close);
            }
            OpenPoll poll = Edges.taken(n + " voted", () -> Edges.voted(voters, 159 - voters), "close() in just the room",
                OpenPoll::close);
            Check.equal("close in just the room: records()", poll.records(), 160);
            Check.equal("close in just the room: audit()", poll.audit(), -1);
            Edges.record("close in just the room", poll, 160 - n, 5, Model.power(4, 10), Model.power(4, 230));
        }
        for (State state : State.values()) {
            if (state.isVoting() && state.room() < 1 + state.n) {
                Edges.noRoom(state, "close()", OpenPoll::close);
            } else if (state.isVoting()) {
                Edges.taken(state.toString(), state, "close()", OpenPoll::close);
            }
        }
    }

    // ---- promise 6

    /** "an order (0 .. n! - 1)": the first one leaves all in their order, the last one turns it round. */
    private static void promise6FirstAndLastOrder() {
        for (int n = 0; n <= 10; n++) {
            int[] same = new int[n];
            int[] turned = new int[n];
            for (int i = 0; i < n; i++) {
                same[i] = i;
                turned[i] = n - 1 - i;
            }
            mixed(n, 77, 0, same);
            mixed(n, 77, Edges.orders(n) - 1, turned);
        }
    }

    /** "the order is divided by n - i, what is left over says which of the entries that were not taken yet .." */
    private static void promise6OrdersAmidst() {
        mixed(2, 5, 1, 1, 0);
        mixed(3, 5, 1, 1, 0, 2);
        mixed(3, 5, 2, 2, 0, 1);
        mixed(3, 5, 3, 0, 2, 1);
        mixed(3, 5, 4, 1, 2, 0);
        mixed(10, 5, 1, 1, 0, 2, 3, 4, 5, 6, 7, 8, 9);
        mixed(10, 5, 9, 9, 0, 1, 2, 3, 4, 5, 6, 7, 8);
        mixed(10, 5, 10, 0, 2, 1, 3, 4, 5, 6, 7, 8, 9);
        mixed(10, 5, 3628798, 8, 9, 7, 6, 5, 4, 3, 2, 1, 0);
        mixed(10, 5, 1814400, 0, 1, 2, 3, 4, 5, 6, 7, 9, 8);
    }

    /** Mixes n entries twice over and compares them with those that are taken. */
    private static void mixed(int n, int seed, int order, int... taken) {
        OpenPoll poll = Edges.closed(n);
        int k = poll.records();
        String what = "mix of " + n + " by the order " + order;
        poll.mix(seed, order);
        Edges.record(what, poll, k, 4, seed, order);
        for (int i = 0; i < n; i++) {
            int r = 10 + taken[i] + Edges.digestNumber(seed, i);
            Edges.record(what, poll, k + 1 + i, 5, Model.power(4, r), Model.power(4, taken[i] % 4 + 23L * r));
        }
        poll.mix(seed, order);
        for (int i = 0; i < n; i++) {
            int of = taken[taken[i]];
            int r = 10 + of + Edges.digestNumber(seed, taken[i]) + Edges.digestNumber(seed, i);
            Edges.record(what + " again", poll, k + n + 2 + i, 5, Model.power(4, r), Model.power(4, of % 4 + 23L * r));
        }
        Check.equal(what + ": phase()", poll.phase(), 2);
        Check.equal(what + ": records()", poll.records(), k + 2 * (n + 1));
        Check.equal(what + ": audit()", poll.audit(), -1);
    }

    /** A seed is any int, the least and the greatest too. */
    private static void promise6EachSeed() {
        for (int seed : Edges.SEEDS) {
            mixed(1, seed, 0, 0);
            mixed(2, seed, 1, 1, 0);
            OpenPoll empty = State.CLOSED_EMPTY.get();
            empty.mix(seed, 0);
            Edges.record("mix of none with " + seed, empty, 5, 4, seed, 0);
            Check.equal("mix of none with " + seed + ": records()", empty.records(), 6);
        }
    }

    /** "IllegalStateException when it is not MIXING" */
    private static void promise6NotMixing() {
        for (State state : State.values()) {
            for (int order : new int[] {0, -1, 1, 2, MIN, MAX}) {
                if (!state.isMixing()) {
                    Edges.illegalState(state, "mix(1, " + order + ")", poll -> poll.mix(1, order));
                }
            }
        }
    }

    /** "IllegalArgumentException when order is none" */
    private static void promise6NoOrder() {
        for (int n = 0; n <= 10; n++) {
            int entries = n;
            for (int order : new int[] {-1, Edges.orders(n), Edges.orders(n) + 1, MIN, MAX}) {
                Edges.refused("IllegalArgumentException", n + " entries", () -> Edges.closed(entries),
                    "mix(1, " + order + ")", poll -> poll.mix(1, order));
            }
        }
        for (State state : State.values()) {
            for (int order : new int[] {-1, Edges.orders(state.n), MIN, MAX}) {
                if (state.isMixing()) {
                    Edges.illegalArgument(state, "mix(1, " + order + ")", poll -> poll.mix(1, order));
                }
            }
        }
    }

    /** "UnsupportedOperationException when there is no room" */
    private static void promise6Room() {
        for (int n = 0; n <= 10; n++) {
            int entries = n;
            for (int records = 160 - n; records <= 160; records++) {
                int before = records;
                Edges.refused("UnsupportedOperationException", n + " entries, " + records + " records",
                    () -> Edges.closed(entries, before), "mix(1, 0)", poll -> poll.mix(1, 0));
            }
            OpenPoll poll = Edges.taken(n + " entries", () -> Edges.closed(entries, 159 - entries),
                "mix(1, 0) in just the room", p -> p.mix(1, 0));
            Check.equal("mix in just the room: records()", poll.records(), 160);
            Check.equal("mix in just the room: audit()", poll.audit(), -1);
            Edges.record("mix in just the room", poll, 159 - n, 4, 1, 0);
        }
        for (State state : State.values()) {
            if (state.isMixing() && state.room() < 1 + state.n) {
                Edges.noRoom(state, "mix(1, 0)", poll -> poll.mix(1, 0));
            } else if (state.isMixing()) {
                Edges.taken(state.toString(), state, "mix(1, 0)", poll -> poll.mix(1, 0));
            }
        }
    }

    // ---- promise 7

    /** "TRUSTEES 0 .. 2"; "3 OPENING" */
    private static void promise7FirstAndLastTrustee() {
        for (int trustee = 0; trustee <= 2; trustee++) {
            int secret = new int[] {5, 7, 11}[trustee];
            OpenPoll poll = State.CLOSED.get();
            poll.open(trustee, 3);
            Check.equal("open(" + trustee + ", 3): phase()", poll.phase(), 3);
            Check.equal("open(" + trustee + ", 3): records()", poll.records(), 11);
            for (int place = 0; place < 2; place++) {
                share(poll, 9 + place, trustee, place, 3, secret, 10 + place);
            }
        }
        for (int order = 0; order < 6; order++) {
            int first = order / 2;
            int second = (first + 1 + order % 2) % 3;
            OpenPoll poll = State.CLOSED.get();
            poll.open(first, 3);
            poll.open(second, 3);
            poll.open(3 - first - second, 3);
            Check.equal("open: " + first + " and then " + second, poll.audit(), -1);
            Check.equal("open: " + first + " and then " + second + ", all", poll.finish(), 2);
        }
    }

    /** The SHARE of an entry whose A is 4^r. */
    private static void share(OpenPoll poll, int k, int trustee, int place, int seed, int secret, long r) {
        int number = Edges.digestNumber(seed, trustee, place);
        int d = Model.power(4, r * secret);
        int t = Model.power(4, number);
        int u = Model.power(4, r * number);
        int c = Edges.digestNumber(Model.power(4, secret), Model.power(4, r), d, t, u);
        int s = (int) ((number + (long) c * secret) % 2039);
        Edges.record("open(" + trustee + ", " + seed + ")", poll, k, 6, trustee, place, d, s, t, u);
    }

    private static void promise7LeastAndGreatestSecrets() {
        for (int secret : new int[] {0, 1, 2037, 2038}) {
            for (int r : new int[] {0, 1, 2037, 2038}) {
                OpenPoll poll = new OpenPoll();
                poll.begin(secret, secret, secret);
                poll.register(0);
                poll.cast(0, 3, r);
                poll.close();
                for (int trustee = 0; trustee < 3; trustee++) {
                    poll.open(trustee, 8);
                    share(poll, 5 + trustee, trustee, 0, 8, secret, r);
                }
                Check.equal("the secret " + secret + ", r " + r + ": finish()", poll.finish(), 1);
                Check.equal("the secret " + secret + ", r " + r + ": votes(3)", poll.votes(3), 1);
                Check.equal("the secret " + secret + ", r " + r + ": audit()", poll.audit(), -1);
            }
        }
    }

    /** A seed is any int, the least and the greatest too. */
    private static void promise7EachSeed() {
        for (int seed : Edges.SEEDS) {
            OpenPoll poll = State.CLOSED.get();
            poll.open(2, seed);
            share(poll, 9, 2, 0, seed, 11, 10);
            share(poll, 10, 2, 1, seed, 11, 11);
            Check.equal("open with the seed " + seed + ": audit()", poll.audit(), -1);
        }
    }

    /** "for each entry, by its place i, a SHARE": of none, none. */
    private static void promise7NoneAndTenEntries() {
        for (int n = 0; n <= 10; n++) {
            OpenPoll poll = Edges.closed(n);
            int before = poll.records();
            poll.open(1, 4);
            Check.equal("open of " + n + ": phase()", poll.phase(), 3);
            Check.equal("open of " + n + ": records()", poll.records(), before + n);
            for (int place = 0; place < n; place++) {
                share(poll, before + place, 1, place, 4, 7, 10 + place);
            }
            Check.equal("open of " + n + ": audit()", poll.audit(), -1);
            Check.illegalState("open of " + n + ": twice", () -> poll.open(1, 4));
            Check.illegalState("open of " + n + ": no mixing any more", () -> poll.mix(1, 0));
        }
    }

    /** "IllegalArgumentException when there is no such" */
    private static void promise7NoSuchTrustee() {
        for (State state : State.values()) {
            for (int no : Edges.NO_TRUSTEES) {
                Edges.illegalArgument(state, "open(" + no + ", 1)", poll -> poll.open(no, 1));
            }
        }
    }

    /** "IllegalStateException when it is not MIXING or OPENING" */
    private static void promise7NotMixingOrOpening() {
        for (State state : State.values()) {
            for (int trustee = 0; trustee <= 2; trustee++) {
                int one = trustee;
                if (!state.isMixing() && !state.isOpening()) {
                    Edges.illegalState(state, "open(" + trustee + ", 1)", poll -> poll.open(one, 1));
                }
            }
        }
    }

    /** "or the trustee has opened" */
    private static void promise7OpenedBefore() {
        for (State state : State.values()) {
            for (int trustee = 0; trustee < state.opened && state.isOpening(); trustee++) {
                int one = trustee;
                Edges.illegalState(state, "open(" + trustee + ", 1)", poll -> poll.open(one, 1));
            }
            if (state.isOpening() && state.opened < 3 && state.room() >= state.n) {
                Edges.taken(state.toString(), state, "open, the first that has not", poll -> poll.open(state.opened, 1));
            }
        }
    }

    /** "UnsupportedOperationException when there is no room" */
    private static void promise7Room() {
        for (int n = 0; n <= 10; n++) {
            int entries = n;
            for (int records = 161 - n; records <= 160; records++) {
                int before = records;
                Edges.refused("UnsupportedOperationException", n + " entries, " + records + " records",
                    () -> Edges.closed(entries, before), "open(2, 1)", poll -> poll.open(2, 1));
            }
            OpenPoll poll = Edges.taken(n + " entries", () -> Edges.closed(entries, 160 - entries),
                "open(2, 1) in just the room", p -> p.open(2, 1));
            Check.equal("open in just the room: records()", poll.records(), 160);
            Check.equal("open in just the room: phase()", poll.phase(), 3);
            Check.equal("open in just the room: audit()", poll.audit(), -1);
        }
        for (State state : State.values()) {
            for (int trustee = state.opened; trustee <= 2 && (state.isMixing() || state.isOpening()); trustee++) {
                int one = trustee;
                if (state.room() < state.n) {
                    Edges.noRoom(state, "open(" + trustee + ", 1)", poll -> poll.open(one, 1));
                } else {
                    Edges.taken(state.toString(), state, "open(" + trustee + ", 1)", poll -> poll.open(one, 1));
                }
            }
        }
    }

    // ---- promise 8

    /** "answers how many votes there are for all choices together" */
    private static void promise8NoneAndTenVotes() {
        for (int n = 0; n <= 10; n++) {
            OpenPoll poll = Edges.opened(n, 0);
            int k = poll.records();
            Check.equal("finish of " + n, poll.finish(), n);
            Check.equal("finish of " + n + ": phase()", poll.phase(), 4);
            Check.equal("finish of " + n + ": records()", poll.records(), k + 1);
            Edges.record("finish of " + n, poll, k, 7, (n + 3) / 4, (n + 2) / 4, (n + 1) / 4, n / 4);
            Check.equal("finish of " + n + ": audit()", poll.audit(), -1);
        }
    }

    /** "a value 4^c, c a choice, is a vote for c": all ten for each choice, the first and the last too. */
    private static void promise8FirstAndLastChoice() {
        for (int choice = 0; choice <= 3; choice++) {
            OpenPoll poll = State.ALL_REGISTERED.get();
            for (int voter = 0; voter < 10; voter++) {
                poll.cast(voter, choice, 2038 - voter);
            }
            poll.close();
            poll.mix(choice, 3628799);
            for (int trustee = 0; trustee < 3; trustee++) {
                poll.open(trustee, 1);
            }
            int[] due = new int[5];
            due[0] = 7;
            due[1 + choice] = 10;
            Check.equal("finish, all for " + choice, poll.finish(), 10);
            Edges.record("finish, all for " + choice, poll, poll.records() - 1, due);
            Check.equal("finish, all for " + choice + ": audit()", poll.audit(), -1);
            Check.equal("finish, all for " + choice + ": votes", Arrays.toString(new int[] {poll.votes(0),
                poll.votes(1), poll.votes(2), poll.votes(3)}), Arrays.toString(Arrays.copyOfRange(due, 1, 5)));
        }
    }

    /** "IllegalStateException when not all three have opened" */
    private static void promise8NotAllHaveOpened() {
        for (State state : State.values()) {
            if (state.opened < 3) {
                Edges.illegalState(state, "finish()", OpenPoll::finish);
            }
        }
        for (int n = 0; n <= 1; n++) {
            int entries = n;
            for (int missing = 0; missing < 3; missing++) {
                int first = (missing + 1) % 3;
                int second = (missing + 2) % 3;
                Edges.refused("IllegalStateException", n + " entries, all but " + missing, () -> {
                    OpenPoll poll = Edges.closed(entries);
                    poll.open(first, 0);
                    poll.open(second, 0);
                    return poll;
                }, "finish()", OpenPoll::finish);
            }
        }
    }

    /** "or it is DONE" */
    private static void promise8DoneBefore() {
        for (State state : State.values()) {
            if (state.isDone()) {
                Edges.illegalState(state, "finish()", OpenPoll::finish);
            }
        }
    }

    /** "UnsupportedOperationException when there is no room" */
    private static void promise8Room() {
        Edges.noRoom(State.OPENED_FULL, "finish()", OpenPoll::finish);
        Edges.noRoom(State.OPENED_EMPTY_FULL, "finish()", OpenPoll::finish);
        for (int n = 0; n <= 10; n++) {
            int entries = n;
            Edges.refused("UnsupportedOperationException", n + " entries, 160 records",
                () -> Edges.opened(entries, 160), "finish()", OpenPoll::finish);
            OpenPoll poll = Edges.taken(n + " entries", () -> Edges.opened(entries, 159), "finish() in the last room",
                OpenPoll::finish);
            Check.equal("finish in the last room: records()", poll.records(), 160);
            Check.equal("finish in the last room: phase()", poll.phase(), 4);
            Check.equal("finish in the last room: audit()", poll.audit(), -1);
        }
    }
}
