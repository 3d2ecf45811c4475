/** Each sentence that names a boundary for the promises 9 to 13, by the promise's number. */
public final class EdgesOfBoardTest {
    private static final int MIN = Edges.MIN;
    private static final int MAX = Edges.MAX;
    private static final int[] NUMBERS = {MIN, -1, 0, 1, 2039, 4079, MAX};

    private EdgesOfBoardTest() {
    }

    public static void main(String[] args) {
        promise9EachPhase();
        promise9StaysBehindRefusedSteps();
        promise10FirstAndLastChoice();
        promise10NoSuchChoice();
        promise10NoneUntilDone();
        promise10NoneAndTenVotes();
        promise11EmptyAndFull();
        promise11OnlyStepsAddRecords();
        promise12FirstAndLastRecordAndField();
        promise12NotNamedIsZero();
        promise12NoSuchRecord();
        promise12NoSuchField();
        promise13LeastAndGreatestNumber();
        promise13FirstAndLastRecordAndField();
        promise13NoSuchRecord();
        promise13NoSuchField();
        promise13StepsToComeAsIfThisHadNotBeen();
        promise13VotesAsIfThisHadNotBeen();
        Check.end();
    }

    // ---- promise 9

    /** "0 NONE, at first"; "1 VOTING"; "2 MIXING"; "3 OPENING"; "4 DONE" */
    private static void promise9EachPhase() {
        for (int n = 0; n <= 10; n += 5) {
            OpenPoll poll = new OpenPoll();
            Check.equal("phase: at first", poll.phase(), 0);
            for (int time = 0; time < 2; time++) {
                poll.begin(2038, 0, 2038);
                Check.equal("phase: begun", poll.phase(), 1);
                for (int voter = 0; voter < n; voter++) {
                    poll.register(voter);
                    poll.cast(voter, 3, voter);
                    Check.equal("phase: still voting", poll.phase(), 1);
                }
                poll.close();
                Check.equal("phase: closed", poll.phase(), 2);
                poll.mix(1, Edges.orders(n) - 1);
                Check.equal("phase: mixed", poll.phase(), 2);
                for (int trustee = 2; trustee >= 0; trustee--) {
                    poll.open(trustee, 1);
                    Check.equal("phase: opened by " + trustee, poll.phase(), 3);
                }
                poll.finish();
                Check.equal("phase: finished", poll.phase(), 4);
            }
        }
    }

    private static void promise9StaysBehindRefusedSteps() {
        for (State state : State.values()) {
            OpenPoll poll = state.get();
            Check.outcome(Check.silent(() -> poll.begin(-1, 0, 0)));
            Check.outcome(Check.silent(() -> poll.open(3, 0)));
            Check.outcome(Check.silent(() -> poll.mix(0, -1)));
            if (!state.isVoting() || state.room() < 1 + state.n) {
                Check.outcome(poll::close);
            }
            if (state.opened < 3 || state.isDone() || state.room() == 0) {
                Check.outcome(poll::finish);
            }
            Check.equal("phase behind refused steps in " + state, poll.phase(), state.phase);
        }
    }

    // ---- promise 10

    /** "CHOICES 0 .. 3" */
    private static void promise10FirstAndLastChoice() {
        for (int choice = 0; choice <= 3; choice++) {
            OpenPoll poll = State.REGISTERED.get();
            poll.cast(2, (choice + 1) % 4, 5);
            poll.cast(2, choice, 5);
            poll.close();
            for (int trustee = 0; trustee < 3; trustee++) {
                poll.open(trustee, 9);
            }
            poll.finish();
            for (int other = 0; other <= 3; other++) {
                Check.equal("votes(" + other + ") of one for " + choice, poll.votes(other), other == choice ? 1 : 0);
            }
        }
    }

    /** "IllegalArgumentException when there is no such choice" */
    private static void promise10NoSuchChoice() {
        for (State state : State.values()) {
            for (int no : Edges.NO_CHOICES) {
                Edges.illegalArgument(state, "votes(" + no + ")", poll -> poll.votes(no));
            }
        }
    }

    /** "NONE when it is not DONE" */
    private static void promise10NoneUntilDone() {
        for (State state : State.values()) {
            OpenPoll poll = state.get();
            for (int choice = 0; choice <= 3; choice++) {
                Check.equal("votes(" + choice + ") in " + state, poll.votes(choice),
                    state.isDone() ? (state.n + 3 - choice) / 4 : -1);
            }
        }
        OpenPoll again = State.DONE_ALL.get();
        again.begin(0, 0, 0);
        Check.equal("votes: begun again", again.votes(0), -1);
    }

    private static void promise10NoneAndTenVotes() {
        OpenPoll poll = State.DONE_ALL.get();
        Check.equal("votes(0) of ten", poll.votes(0), 3);
        Check.equal("votes(3) of ten", poll.votes(3), 2);
        OpenPoll empty = State.DONE_EMPTY.get();
        Check.equal("votes(0) of none", empty.votes(0), 0);
        Check.equal("votes(3) of none", empty.votes(3), 0);
        poll.begin(5, 7, 11);
        poll.close();
        for (int trustee = 0; trustee < 3; trustee++) {
            poll.open(trustee, 1);
        }
        Check.equal("finish of none behind ten", poll.finish(), 0);
        for (int choice = 0; choice <= 3; choice++) {
            Check.equal("votes(" + choice + ") of none behind ten", poll.votes(choice), 0);
        }
    }

    // ---- promise 11

    private static void promise11EmptyAndFull() {
        OpenPoll poll = new OpenPoll();
        Check.equal("records: empty", poll.records(), 0);
        poll.begin(1, 2, 3);
        poll.register(7);
        for (int records = 2; records < 160; records++) {
            Check.equal("records: before one more", poll.records(), records);
            poll.cast(7, 1, records);
        }
        Check.equal("records: full", poll.records(), 160);
        Check.noRoom("records: one too many", () -> poll.cast(7, 1, 1));
        Check.equal("records: still full", poll.records(), 160);
        poll.begin(1, 2, 3);
        Check.equal("records: begun again", poll.records(), 1);
    }

    private static void promise11OnlyStepsAddRecords() {
        for (State state : State.values()) {
            OpenPoll poll = state.get();
            int records = state.records;
            poll.audit();
            poll.head(records);
            poll.votes(0);
            poll.shows(0, 1, 1, 1);
            poll.continues(1, 1, 1, 1);
            if (records > 0) {
                poll.prove(records - 1, records);
                poll.relate(records, records);
                poll.forge(records - 1, 6, 1);
                poll.leaf(0);
            }
            Check.equal("records behind what is no step in " + state, poll.records(), records);
        }
    }

    // ---- promise 12

    /** "its kind (field = 0), or f(field - 1), field 1 .. 6" */
    private static void promise12FirstAndLastRecordAndField() {
        int[] lastKinds = {0, 1, 1, 2, 2};
        State[] states = {State.BEGUN, State.REGISTERED, State.ALL_REGISTERED, State.VOTED, State.VOTED_FULL};
        for (int i = 0; i < states.length; i++) {
            OpenPoll poll = states[i].get();
            int last = states[i].records - 1;
            Edges.record("the first record in " + states[i], poll, 0, 0, Model.power(4, 5), Model.power(4, 7),
                Model.power(4, 11));
            Check.equal("the last record's kind in " + states[i], poll.field(last, 0), lastKinds[i]);
        }
        OpenPoll full = State.DONE_FULL.get();
        Edges.record("the last record of a full board", full, 159, 7, 1, 1);
        OpenPoll one = State.CLOSED_FULL.get();
        Edges.record("the last entry of a full board", one, 159, 5, Model.power(4, 1), Model.power(4, 24));
        for (int field = 1; field <= 6; field++) {
            one.forge(159, field, 100 + field);
        }
        Edges.record("six numbers of the last record", one, 159, 5, 101, 102, 103, 104, 105, 106);
        Edges.record("the record before it", one, 158, 3);
    }

    /** "those not named are 0", also where a longer board stood before. */
    private static void promise12NotNamedIsZero() {
        int[] named = {3, 1, 3, 0, 2, 2, 6, 4};
        OpenPoll poll = new OpenPoll();
        poll.begin(5, 7, 11);
        poll.register(0);
        poll.cast(0, 0, 1);
        poll.close();
        for (int trustee = 0; trustee < 3; trustee++) {
            poll.open(trustee, 1);
        }
        poll.finish();
        for (int k = 0; k < poll.records(); k++) {
            for (int field = 1; field <= 6; field++) {
                poll.forge(k, field, 9);
            }
        }
        poll.begin(5, 7, 11);
        poll.register(0);
        poll.register(1);
        poll.cast(0, 0, 1);
        poll.close();
        poll.mix(1, 0);
        for (int trustee = 0; trustee < 3; trustee++) {
            poll.open(trustee, 1);
        }
        poll.finish();
        for (int k = 0; k < poll.records(); k++) {
            for (int field = named[poll.field(k, 0)] + 1; field <= 6; field++) {
                Check.equal("not named: field(" + k + ", " + field + ")", poll.field(k, field), 0);
            }
        }
    }

    /** "IndexOutOfBoundsException when there is no such record .." */
    private static void promise12NoSuchRecord() {
        for (State state : State.values()) {
            for (int no : new int[] {MIN, -1, state.records, 160, 161, MAX}) {
                Edges.outOfBounds(state, "field(" + no + ", 0)", poll -> poll.field(no, 0));
                Edges.outOfBounds(state, "field(" + no + ", 6)", poll -> poll.field(no, 6));
            }
        }
    }

    /** ".. or field" */
    private static void promise12NoSuchField() {
        for (State state : State.values()) {
            for (int no : new int[] {MIN, -1, 7, MAX}) {
                Edges.outOfBounds(state, "field(0, " + no + ")", poll -> poll.field(0, no));
                Edges.outOfBounds(state, "field(" + (state.records - 1) + ", " + no + ")",
                    poll -> poll.field(state.records - 1, no));
            }
        }
    }

    // ---- promise 13

    /** "writes a number over f(field - 1)": any int; "answers what it was" */
    private static void promise13LeastAndGreatestNumber() {
        for (State state : State.values()) {
            if (state.records == 0) {
                continue;
            }
            OpenPoll poll = state.get();
            for (int k : new int[] {0, state.records - 1}) {
                for (int field = 1; field <= 6; field++) {
                    int was = poll.field(k, field);
                    String what = "forge(" + k + ", " + field + ") in " + state;
                    for (int number : NUMBERS) {
                        Check.equal(what + " answers", poll.forge(k, field, number), was);
                        Check.equal(what + " is read", poll.field(k, field), number);
                        was = number;
                    }
                }
            }
        }
    }

    /** "over f(field - 1) of record k": no other number, and no kind. */
    private static void promise13FirstAndLastRecordAndField() {
        for (State state : new State[] {State.VOTED, State.CLOSED, State.OPENED_ALL, State.DONE_EMPTY}) {
            for (int field = 1; field <= 6; field++) {
                for (int k = 0; k < state.records; k++) {
                    OpenPoll poll = state.get();
                    int was = poll.field(k, field);
                    long head = poll.head(state.records);
                    Check.equal("forge answers", poll.forge(k, field, ~was), was);
                    same("forge(" + k + ", " + field + ") in " + state, poll, state, k, field, ~was);
                    Check.equal("forge back answers", poll.forge(k, field, was), ~was);
                    Check.equal("forge back in " + state, poll.head(state.records), head);
                }
            }
        }
    }

    private static void same(String what, OpenPoll poll, State state, int k, int field, int number) {
        OpenPoll twin = state.get();
        for (int record = 0; record < state.records; record++) {
            for (int one = 0; one <= 6; one++) {
                Check.equal(what + ", field(" + record + ", " + one + ")", poll.field(record, one),
                    record == k && one == field ? number : twin.field(record, one));
            }
        }
    }

    /** "IndexOutOfBoundsException when there is no such record .." */
    private static void promise13NoSuchRecord() {
        for (State state : State.values()) {
            for (int no : new int[] {MIN, -1, state.records, 160, 161, MAX}) {
                Edges.outOfBounds(state, "forge(" + no + ", 1, 1)", poll -> poll.forge(no, 1, 1));
                Edges.outOfBounds(state, "forge(" + no + ", 6, 1)", poll -> poll.forge(no, 6, 1));
            }
        }
    }

    /** ".. or field": the kind can't be written over. */
    private static void promise13NoSuchField() {
        for (State state : State.values()) {
            for (int no : new int[] {MIN, -1, 0, 7, MAX}) {
                Edges.outOfBounds(state, "forge(0, " + no + ", 1)", poll -> poll.forge(0, no, 1));
                Edges.outOfBounds(state, "forge(" + (state.records - 1) + ", " + no + ", 1)",
                    poll -> poll.forge(state.records - 1, no, 1));
            }
        }
    }

    /** "steps to come are done as if this had not been": the same answers, exceptions and new records. */
    private static void promise13StepsToComeAsIfThisHadNotBeen() {
        for (State state : State.values()) {
            for (int number : new int[] {0, 1, 9, MIN, MAX}) {
                OpenPoll forged = state.get();
                OpenPoll twin = state.get();
                int first = Math.max(0, state.records - 16);
                for (int k = first; k < state.records; k++) {
                    forgeAll(forged, k, number);
                }
                for (int k = 0; k < Math.min(first, 16); k++) {
                    forgeAll(forged, k, number);
                }
                String what = "steps behind forging in " + state;
                Check.equal(what, steps(forged), steps(twin));
                for (int k = state.records; k < twin.records(); k++) {
                    Check.equal(what + ", leaf(" + k + ")", forged.leaf(k), twin.leaf(k));
                }
            }
        }
    }

    private static void forgeAll(OpenPoll poll, int k, int number) {
        for (int field = 1; field <= 6; field++) {
            poll.forge(k, field, number);
        }
    }

    private static String steps(OpenPoll poll) {
        String all = Edges.goneOn(poll);
        int head = all.indexOf(", head");
        int votes = all.indexOf(", votes");
        return all.substring(0, head) + all.substring(votes);
    }

    private static void promise13VotesAsIfThisHadNotBeen() {
        OpenPoll poll = State.DONE_ALL.get();
        for (int number : new int[] {MIN, -1, 0, 10, 11, MAX}) {
            for (int field = 1; field <= 4; field++) {
                poll.forge(73, field, number);
            }
            Check.equal("votes(0) behind a forged result", poll.votes(0), 3);
            Check.equal("votes(3) behind a forged result", poll.votes(3), 2);
        }
    }
}
