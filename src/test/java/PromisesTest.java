/** Each promise by itself: ordinary inputs, the edges that the document names, and wrong inputs. */
public final class PromisesTest {
    private static final int MIN = Integer.MIN_VALUE;
    private static final int MAX = Integer.MAX_VALUE;

    private PromisesTest() {
    }

    public static void main(String[] args) {
        promise1NewObject();
        promise2Begin();
        promise3Register();
        promise4Cast();
        promise5Close();
        promise6Mix();
        promise7Open();
        promise8Finish();
        promise9Phase();
        promise10Votes();
        promise11Records();
        promise12Field();
        promise13Forge();
        promise14AuditOfWholePolls();
        promise14AuditOfEachRecord();
        promise14AuditOfKinds();
        promise14AuditOfTheResult();
        promise14AuditOfSharesThatOnlySeemProved();
        promise15Leaf();
        promise16Head();
        promise17Prove();
        promise18Relate();
        promise19Proof();
        promise20Shows();
        promise21Continues();
        throwingChangesNothing();
        Check.end();
    }

    // ---- helpers

    private static void record(String what, OpenPoll poll, int k, int... due) {
        for (int field = 0; field <= 6; field++) {
            Check.equal(what + ", field(" + k + ", " + field + ")", poll.field(k, field),
                field < due.length ? due[field] : 0);
        }
    }

    /** Voters 0 .. n - 1 with one ballot each, for choice i % 4, with r = 10 + i. */
    private static OpenPoll voted(int n) {
        OpenPoll poll = new OpenPoll();
        poll.begin(5, 7, 11);
        for (int i = 0; i < n; i++) {
            poll.register(i);
        }
        for (int i = 0; i < n; i++) {
            poll.cast(i, i % 4, 10 + i);
        }
        return poll;
    }

    private static OpenPoll closed(int n) {
        OpenPoll poll = voted(n);
        poll.close();
        return poll;
    }

    private static OpenPoll opened(int n) {
        OpenPoll poll = closed(n);
        poll.mix(3, 0);
        poll.open(0, 1);
        poll.open(1, 2);
        poll.open(2, 3);
        return poll;
    }

    private static OpenPoll done(int n) {
        OpenPoll poll = opened(n);
        poll.finish();
        return poll;
    }

    /** A poll of one voter, with so many records. */
    private static OpenPoll votedUpTo(int records) {
        OpenPoll poll = voted(1);
        while (poll.records() < records) {
            poll.cast(0, 1, 1);
        }
        return poll;
    }

    /** A closed poll of two voters, with 8 records or 3, 6, 9 .. more, as each mixing has three. */
    private static OpenPoll mixedUpTo(int records) {
        OpenPoll poll = closed(2);
        while (poll.records() < records) {
            poll.mix(1, 1);
        }
        return poll;
    }

    private static String board(OpenPoll poll) {
        StringBuilder all = new StringBuilder().append(poll.phase());
        for (int k = 0; k < poll.records(); k++) {
            for (int field = 0; field <= 6; field++) {
                all.append(' ').append(poll.field(k, field));
            }
        }
        for (int choice = 0; choice < 4; choice++) {
            all.append(' ').append(poll.votes(choice));
        }
        return all.append(' ').append(poll.audit()).toString();
    }

    // ---- the promises

    private static void promise1NewObject() {
        OpenPoll poll = new OpenPoll();
        Check.equal("new: records()", poll.records(), 0);
        Check.equal("new: phase()", poll.phase(), 0);
        Check.equal("new: audit()", poll.audit(), -1);
        Check.equal("new: head(0)", poll.head(0), 0L);
        Check.outOfBounds("new: proof(0)", () -> poll.proof(0));
        Check.outOfBounds("new: leaf(0)", () -> poll.leaf(0));
        Check.outOfBounds("new: field(0, 0)", () -> poll.field(0, 0));
        Check.outOfBounds("new: head(1)", () -> poll.head(1));
        Check.equal("new: votes(0)", poll.votes(0), -1);
        Check.isFalse("new: a proof of two", poll.shows(0, 2, 1, 1));
        Check.isFalse("new: a going on of two", poll.continues(1, 2, 1, 1));
    }

    private static void promise2Begin() {
        OpenPoll poll = new OpenPoll();
        poll.begin(0, 1, 2038);
        Check.equal("begin: phase()", poll.phase(), 1);
        Check.equal("begin: records()", poll.records(), 1);
        record("begin", poll, 0, 0, 1, 4, Model.power(4, 2038));
        int[] wrong = {-1, 2039, MIN, MAX};
        for (int number : wrong) {
            Check.illegalArgument("begin: x " + number, () -> poll.begin(number, 0, 0));
            Check.illegalArgument("begin: y " + number, () -> poll.begin(0, number, 0));
            Check.illegalArgument("begin: z " + number, () -> poll.begin(0, 0, number));
        }
        record("begin that threw", poll, 0, 0, 1, 4, Model.power(4, 2038));

        OpenPoll again = done(2);
        again.prove(1, 3);
        long kept = again.proof(0);
        again.begin(2, 2, 2);
        Check.equal("begin again: phase()", again.phase(), 1);
        Check.equal("begin again: records()", again.records(), 1);
        Check.equal("begin again: votes(0)", again.votes(0), -1);
        Check.equal("begin again: the proof stays", again.proof(0), kept);
        record("begin again", again, 0, 0, 16, 16, 16);
        Check.illegalState("begin again: nobody is registered", () -> again.cast(0, 0, 0));
        again.register(0);
        Check.equal("begin again: no ballots from before", again.close(), 0);
        again.open(0, 0);
        again.open(1, 0);
        Check.illegalState("begin again: nobody has opened before", again::finish);
        OpenPoll third = done(1);
        third.begin(0, 0, 0);
        for (int voter = 0; voter < 10; voter++) {
            third.register(voter);
            record("begin again: nothing is left of before", third, 1 + voter, 1, voter);
        }
    }

    private static void promise3Register() {
        OpenPoll poll = new OpenPoll();
        Check.illegalState("register: not begun", () -> poll.register(0));
        Check.illegalArgument("register: no voter, not begun", () -> poll.register(10));
        poll.begin(1, 2, 3);
        for (int voter = 9; voter >= 0; voter--) {
            int one = voter;
            poll.register(voter);
            record("register", poll, 10 - voter, 1, voter);
            Check.illegalState("register: twice", () -> poll.register(one));
        }
        int[] wrong = {-1, 10, MIN, MAX};
        for (int voter : wrong) {
            Check.illegalArgument("register: " + voter, () -> poll.register(voter));
        }
        Check.equal("register: records()", poll.records(), 11);

        OpenPoll mixing = closed(1);
        Check.illegalState("register: mixing", () -> mixing.register(5));
        OpenPoll full = votedUpTo(160);
        Check.noRoom("register: full", () -> full.register(5));
        Check.illegalState("register: full, registered", () -> full.register(0));
        Check.illegalArgument("register: full, no voter", () -> full.register(-1));
        OpenPoll nearly = votedUpTo(159);
        nearly.register(5);
        Check.equal("register: the last room", nearly.records(), 160);
    }

    private static void promise4Cast() {
        OpenPoll poll = new OpenPoll();
        Check.illegalState("cast: not begun", () -> poll.cast(0, 0, 0));
        poll.begin(5, 7, 11);
        poll.register(3);
        Check.equal("cast answers the record", poll.cast(3, 0, 0), 2);
        record("cast", poll, 2, 2, 3, 1, 1);
        Check.equal("cast again", poll.cast(3, 3, 1), 3);
        record("cast again", poll, 3, 2, 3, 4, Model.power(4, 3 + 23));
        Check.equal("cast with the greatest number", poll.cast(3, 2, 2038), 4);
        record("cast with the greatest number", poll, 4, 2, 3, Model.power(4, 2038), Model.power(4, 2 + 23 * 2038));
        int[] noVoters = {-1, 10, MIN, MAX};
        for (int voter : noVoters) {
            Check.illegalArgument("cast: voter " + voter, () -> poll.cast(voter, 0, 0));
        }
        int[] noChoices = {-1, 4, MIN, MAX};
        for (int choice : noChoices) {
            Check.illegalArgument("cast: choice " + choice, () -> poll.cast(3, choice, 0));
            Check.illegalArgument("cast: not registered, choice " + choice, () -> poll.cast(4, choice, 0));
        }
        int[] noNumbers = {-1, 2039, MIN, MAX};
        for (int r : noNumbers) {
            Check.illegalArgument("cast: r " + r, () -> poll.cast(3, 0, r));
        }
        Check.illegalState("cast: not registered", () -> poll.cast(4, 0, 0));
        Check.equal("cast: records()", poll.records(), 5);

        OpenPoll full = votedUpTo(160);
        Check.noRoom("cast: full", () -> full.cast(0, 0, 0));
        Check.illegalState("cast: full, not registered", () -> full.cast(1, 0, 0));
        Check.equal("cast: the last room", votedUpTo(159).cast(0, 0, 0), 159);
        OpenPoll mixing = closed(1);
        Check.illegalState("cast: mixing", () -> mixing.cast(0, 0, 0));
    }

    private static void promise5Close() {
        OpenPoll poll = new OpenPoll();
        Check.illegalState("close: not begun", poll::close);
        poll.begin(5, 7, 11);
        for (int voter = 9; voter >= 5; voter--) {
            poll.register(voter);
        }
        poll.cast(8, 1, 3);
        poll.cast(6, 2, 4);
        poll.cast(8, 0, 5);
        Check.equal("close answers n", poll.close(), 2);
        Check.equal("close: phase()", poll.phase(), 2);
        Check.equal("close: records()", poll.records(), 12);
        record("close: CLOSED", poll, 9, 3);
        record("close: voter 6", poll, 10, 5, Model.power(4, 4), Model.power(4, 2 + 23 * 4));
        record("close: voter 8, the last", poll, 11, 5, Model.power(4, 5), Model.power(4, 23 * 5));
        Check.illegalState("close: twice", poll::close);

        Check.equal("close: nobody voted", voted(0).close(), 0);
        Check.equal("close: all voted", voted(10).close(), 10);
        Check.equal("close: just room", votedUpTo(158).close(), 1);
        OpenPoll tight = votedUpTo(159);
        Check.noRoom("close: no room", tight::close);
        Check.equal("close: no room, records()", tight.records(), 159);
        Check.equal("close: no room, phase()", tight.phase(), 1);
    }

    private static void promise6Mix() {
        OpenPoll early = new OpenPoll();
        Check.illegalState("mix: not begun", () -> early.mix(0, -1));
        OpenPoll voting = voted(2);
        Check.illegalState("mix: voting", () -> voting.mix(0, 0));

        OpenPoll poll = closed(3);
        // order 4 of three: 4 = 1 + 3 * 1, 1 = 1 + 2 * 0, so the entries 1, 2, 0 are taken
        poll.mix(-77, 4);
        Check.equal("mix: phase()", poll.phase(), 2);
        record("mix: MIXED", poll, 11, 4, -77, 4);
        int[] taken = {1, 2, 0};
        for (int i = 0; i < 3; i++) {
            int r = 10 + taken[i] + Model.digestNumber(-77, i);
            record("mix: entry " + i, poll, 12 + i, 5, Model.power(4, r), Model.power(4, taken[i] + 23L * r));
        }
        Check.equal("mix: records()", poll.records(), 15);
        poll.mix(MAX, 5);
        record("mix again: MIXED", poll, 15, 4, MAX, 5);
        // order 5: 5 = 2 + 3 * 1, 1 = 1 + 2 * 0, so 2, 1, 0 of the new ones
        for (int i = 0; i < 3; i++) {
            int of = taken[2 - i];
            int r = 10 + of + Model.digestNumber(-77, 2 - i) + Model.digestNumber(MAX, i);
            record("mix again: entry " + i, poll, 16 + i, 5, Model.power(4, r), Model.power(4, of + 23L * r));
        }
        int[] wrong = {-1, 6, MIN, MAX};
        for (int order : wrong) {
            Check.illegalArgument("mix: order " + order, () -> poll.mix(1, order));
        }
        Check.equal("mix: nothing behind a throw", poll.records(), 19);

        OpenPoll four = closed(4);
        // order 17 of four: 17 = 1 + 4 * 4, 4 = 1 + 3 * 1, 1 = 1 + 2 * 0, so the entries 1, 2, 3, 0
        four.mix(6, 17);
        int[] ofFour = {1, 2, 3, 0};
        for (int i = 0; i < 4; i++) {
            int r = 10 + ofFour[i] + Model.digestNumber(6, i);
            record("mix: entry " + i + " of four", four, 15 + i, 5, Model.power(4, r),
                Model.power(4, ofFour[i] + 23L * r));
        }
        OpenPoll ten = closed(10);
        Check.illegalArgument("mix: 10! is no order", () -> ten.mix(1, 3628800));
        ten.mix(1, 3628799);
        Check.equal("mix: the last order of ten", ten.audit(), -1);
        OpenPoll none = closed(0);
        none.mix(1, 0);
        record("mix: no entries", none, 2, 4, 1, 0);
        Check.illegalArgument("mix: no entries, order 1", () -> none.mix(1, 1));

        OpenPoll full = mixedUpTo(158);
        Check.noRoom("mix: no room", () -> full.mix(1, 0));
        Check.illegalArgument("mix: no room, no order", () -> full.mix(1, 2));
        Check.equal("mix: no room, records()", full.records(), 158);
        OpenPoll opening = opened(1);
        Check.illegalState("mix: opening", () -> opening.mix(1, -1));
    }

    private static void promise7Open() {
        OpenPoll early = new OpenPoll();
        Check.illegalState("open: not begun", () -> early.open(0, 0));
        OpenPoll poll = voted(2);
        Check.illegalState("open: voting", () -> poll.open(0, 0));
        int[] wrong = {-1, 3, MIN, MAX};
        for (int trustee : wrong) {
            Check.illegalArgument("open: trustee " + trustee, () -> poll.open(trustee, 0));
        }
        poll.close();
        poll.open(1, -9);
        Check.equal("open: phase()", poll.phase(), 3);
        Check.equal("open: records()", poll.records(), 10);
        for (int place = 0; place < 2; place++) {
            int r = 10 + place;
            int k = Model.digestNumber(-9, 1, place);
            int y = Model.power(4, 7);
            int a = Model.power(4, r);
            int d = Model.power(4, 7 * r);
            int t = Model.power(4, k);
            int u = Model.power(4, (long) k * r);
            int s = (int) ((k + 7L * Model.digestNumber(y, a, d, t, u)) % 2039);
            record("open: share", poll, 8 + place, 6, 1, place, d, s, t, u);
        }
        Check.illegalState("open: twice", () -> poll.open(1, 0));
        poll.open(2, 0);
        poll.open(0, 0);
        Check.equal("open: phase() with all", poll.phase(), 3);
        poll.finish();
        Check.illegalState("open: done", () -> poll.open(0, 0));
        Check.illegalArgument("open: done, no trustee", () -> poll.open(3, 0));

        OpenPoll tight = mixedUpTo(155);
        tight.open(0, 1);
        tight.open(1, 1);
        Check.equal("open: one record is left", tight.records(), 159);
        Check.noRoom("open: no room", () -> tight.open(2, 1));
        Check.illegalState("open: no room, opened", () -> tight.open(1, 1));
        Check.equal("open: nothing behind a throw", tight.records(), 159);
        OpenPoll all = mixedUpTo(158);
        all.open(0, 1);
        Check.equal("open: just room", all.records(), 160);

        OpenPoll none = closed(0);
        while (none.records() < 160) {
            none.mix(0, 0);
        }
        for (int trustee = 0; trustee < 3; trustee++) {
            none.open(trustee, 0);
        }
        Check.equal("open: no entries need no room", none.records(), 160);
        Check.equal("open: no entries, phase()", none.phase(), 3);
    }

    private static void promise8Finish() {
        OpenPoll early = new OpenPoll();
        Check.illegalState("finish: not begun", early::finish);
        OpenPoll poll = voted(6);
        Check.illegalState("finish: voting", poll::finish);
        poll.cast(5, 3, 8);
        poll.close();
        Check.illegalState("finish: mixing", poll::finish);
        poll.mix(1, 700);
        poll.open(2, 1);
        poll.open(0, 1);
        Check.illegalState("finish: one has not opened", poll::finish);
        poll.open(1, 1);
        int before = poll.records();
        Check.equal("finish answers all votes", poll.finish(), 6);
        Check.equal("finish: phase()", poll.phase(), 4);
        Check.equal("finish: records()", poll.records(), before + 1);
        record("finish: RESULT", poll, before, 7, 2, 1, 1, 2);
        Check.illegalState("finish: twice", poll::finish);
        Check.equal("finish: nobody voted", done(0).votes(0), 0);
        Check.equal("finish: nobody voted, answer", opened(0).finish(), 0);
        Check.equal("finish: all ten", opened(10).finish(), 10);

        for (int missing = 0; missing < 3; missing++) {
            OpenPoll two = closed(1);
            two.open((missing + 1) % 3, 0);
            two.open((missing + 2) % 3, 0);
            Check.illegalState("finish: without trustee " + missing, two::finish);
        }

        OpenPoll full = closed(0);
        while (full.records() < 160) {
            full.mix(0, 0);
        }
        full.open(0, 0);
        full.open(1, 0);
        Check.illegalState("finish: full, not all opened", full::finish);
        full.open(2, 0);
        Check.noRoom("finish: full", full::finish);
        Check.equal("finish: full, phase()", full.phase(), 3);
        // one entry: 6 records to CLOSED's entry, then 75 mixings of two, then 3 shares leave one
        OpenPoll last = votedUpTo(4);
        last.close();
        for (int i = 0; i < 75; i++) {
            last.mix(i, 0);
        }
        for (int trustee = 0; trustee < 3; trustee++) {
            last.open(trustee, 4);
        }
        Check.equal("finish: before the last room", last.records(), 159);
        Check.equal("finish: in the last room", last.finish(), 1);
        Check.equal("finish: audit of the full board", last.audit(), -1);
    }

    private static void promise9Phase() {
        OpenPoll poll = new OpenPoll();
        Check.equal("phase: none", poll.phase(), 0);
        poll.begin(1, 1, 1);
        Check.equal("phase: voting", poll.phase(), 1);
        poll.register(0);
        poll.cast(0, 0, 0);
        Check.equal("phase: still voting", poll.phase(), 1);
        poll.close();
        Check.equal("phase: mixing", poll.phase(), 2);
        poll.mix(0, 0);
        Check.equal("phase: still mixing", poll.phase(), 2);
        for (int trustee = 0; trustee < 3; trustee++) {
            poll.open(trustee, 0);
            Check.equal("phase: opening", poll.phase(), 3);
        }
        poll.finish();
        Check.equal("phase: done", poll.phase(), 4);
        poll.begin(1, 1, 1);
        Check.equal("phase: voting again", poll.phase(), 1);
    }

    private static void promise10Votes() {
        OpenPoll poll = opened(7);
        Check.equal("votes: not done", poll.votes(0), OpenPoll.NONE);
        int[] wrong = {-1, 4, MIN, MAX};
        for (int choice : wrong) {
            Check.illegalArgument("votes: not done, " + choice, () -> poll.votes(choice));
        }
        poll.finish();
        int[] due = {2, 2, 2, 1};
        for (int choice = 0; choice < 4; choice++) {
            Check.equal("votes(" + choice + ")", poll.votes(choice), due[choice]);
        }
        for (int choice : wrong) {
            Check.illegalArgument("votes: done, " + choice, () -> poll.votes(choice));
        }
        poll.forge(poll.records() - 1, 1, 9);
        Check.equal("votes: the board's forgery is not the count", poll.votes(0), 2);
    }

    private static void promise11Records() {
        OpenPoll poll = new OpenPoll();
        Check.equal("records: none", poll.records(), 0);
        Check.equal("records: begun", voted(0).records(), 1);
        Check.equal("records: voted", voted(10).records(), 21);
        Check.equal("records: closed", closed(10).records(), 32);
        Check.equal("records: opened", opened(10).records(), 73);
        Check.equal("records: done", done(10).records(), 74);
        Check.equal("records: full", votedUpTo(160).records(), 160);
    }

    private static void promise12Field() {
        OpenPoll poll = done(1);
        int[] kinds = {0, 1, 2, 3, 5, 4, 5, 6, 6, 6, 7};
        Check.equal("field: records()", poll.records(), kinds.length);
        for (int k = 0; k < kinds.length; k++) {
            int at = k;
            Check.equal("field: the kind of " + k, poll.field(k, 0), kinds[k]);
            int[] wrong = {-1, 7, MIN, MAX};
            for (int field : wrong) {
                Check.outOfBounds("field(" + k + ", " + field + ")", () -> poll.field(at, field));
            }
        }
        record("field: BEGUN", poll, 0, 0, Model.power(4, 5), Model.power(4, 7), Model.power(4, 11));
        int[] wrong = {-1, kinds.length, 160, MIN, MAX};
        for (int k : wrong) {
            Check.outOfBounds("field(" + k + ", 0)", () -> poll.field(k, 0));
        }
        poll.begin(1, 1, 1);
        Check.outOfBounds("field: of the board before", () -> poll.field(1, 0));
    }

    private static void promise13Forge() {
        OpenPoll poll = voted(2);
        Check.equal("forge answers what it was", poll.forge(0, 6, -5), 0);
        Check.equal("forge answers the forged one", poll.forge(0, 6, MAX), -5);
        Check.equal("forge: what stands", poll.field(0, 6), MAX);
        int[] noFields = {0, -1, 7, MIN, MAX};
        for (int field : noFields) {
            Check.outOfBounds("forge: field " + field, () -> poll.forge(0, field, 1));
        }
        int[] noRecords = {-1, 5, MIN, MAX};
        for (int k : noRecords) {
            Check.outOfBounds("forge: record " + k, () -> poll.forge(k, 1, 1));
        }

        OpenPoll forged = voted(3);
        OpenPoll honest = voted(3);
        for (int step = 0; step < 7; step++) {
            for (int k = 0; k < forged.records(); k++) {
                for (int field = 1; field <= 6; field++) {
                    forged.forge(k, field, 1 + k % 3);
                }
            }
            int before = forged.records();
            step(forged, step);
            step(honest, step);
            Check.equal("forge: records() after step " + step, forged.records(), honest.records());
            for (int k = before; k < honest.records(); k++) {
                for (int field = 0; field <= 6; field++) {
                    Check.equal("forge: field(" + k + ", " + field + ") after step " + step, forged.field(k, field),
                        honest.field(k, field));
                }
            }
        }
        Check.equal("forge: votes(1)", forged.votes(1), honest.votes(1));
        Check.illegalState("forge: the voter stays registered", () -> {
            OpenPoll other = voted(1);
            other.forge(1, 1, 7);
            other.register(0);
        });
    }

    private static void step(OpenPoll poll, int step) {
        switch (step) {
            case 0:
                poll.cast(1, 1, 99);
                break;
            case 1:
                poll.close();
                break;
            case 2:
                poll.mix(8, 3);
                break;
            case 6:
                poll.finish();
                break;
            default:
                poll.open(5 - step, 7);
        }
    }

    private static void promise14AuditOfWholePolls() {
        for (int n = 0; n <= 10; n++) {
            Check.equal("audit: voted " + n, voted(n).audit(), -1);
            Check.equal("audit: closed " + n, closed(n).audit(), -1);
            Check.equal("audit: opened " + n, opened(n).audit(), -1);
            OpenPoll poll = done(n);
            Check.equal("audit: done " + n, poll.audit(), -1);
            Check.equal("audit: twice", poll.audit(), -1);
        }
        OpenPoll unmixed = closed(3);
        unmixed.open(2, 1);
        Check.equal("audit: opened without mixing", unmixed.audit(), -1);
        OpenPoll nobody = closed(0);
        nobody.open(1, 1);
        Check.equal("audit: opening of no entries", nobody.audit(), -1);
        Check.equal("audit: full", votedUpTo(160).audit(), -1);
    }

    /** Every number of a whole poll is written over; where it was wrong, it is found there at the earliest. */
    private static void promise14AuditOfEachRecord() {
        OpenPoll poll = done(2);
        int[] kinds = {0, 1, 1, 2, 2, 3, 5, 5, 4, 5, 5, 6, 6, 6, 6, 6, 6, 7};
        int[] named = {3, 1, 3, 0, 2, 2, 6, 4};
        for (int k = 0; k < kinds.length; k++) {
            for (int field = 1; field <= 6; field++) {
                int was = poll.forge(k, field, -3);
                // a seed can be any number: only what it makes is found wrong
                int due = kinds[k] == 4 && field == 1 ? 9 : k;
                Check.equal("audit: -3 in field " + field + " of record " + k, poll.audit(), due);
                if (field > named[kinds[k]]) {
                    poll.forge(k, field, 1);
                    Check.equal("audit: 1 where nothing is named, in " + k, poll.audit(), k);
                }
                poll.forge(k, field, was);
            }
        }
        Check.equal("audit: all is put right again", poll.audit(), -1);

        audited("audit: 0 is no element", 0, 1, 0, 0);
        audited("audit: P is none", 0, 2, 4079, 0);
        audited("audit: P + 4 is none", 0, 3, 4083, 0);
        audited("audit: 4078 is none", 0, 3, 4078, 0);
        audited("audit: another key is found at the mixing or the shares", 0, 1, 4, 9);
        audited("audit: voter 10", 1, 1, 10, 1);
        audited("audit: voter 1 twice", 1, 1, 1, 2);
        audited("audit: voter 2 for 0 lacks behind", 1, 1, 2, 3);
        audited("audit: a ballot of one not registered", 3, 1, 2, 3);
        audited("audit: a ballot's A", 3, 2, 4, 6);
        audited("audit: a ballot's A, 4078", 3, 2, 4078, 3);
        audited("audit: a ballot's B, 4078", 4, 3, 4078, 4);
        audited("audit: a ballot's B", 4, 3, 4, 7);
        audited("audit: an entry's A", 7, 1, 4, 7);
        audited("audit: an order of two", 8, 2, 1, 9);
        audited("audit: no order of two", 8, 2, 2, 8);
        audited("audit: another seed", 8, 1, 4, 9);
        audited("audit: trustee 3", 11, 1, 3, 11);
        audited("audit: another trustee", 11, 1, 1, 11);
        audited("audit: a trustee who opened", 13, 1, 0, 13);
        audited("audit: another trustee amidst", 12, 1, 1, 12);
        audited("audit: another place", 11, 2, 1, 11);
        audited("audit: another D", 14, 3, 4, 14);
        audited("audit: another t", 15, 5, 4, 15);
        audited("audit: another u", 16, 6, 4, 16);
        audited("audit: another count", 17, 3, 1, 17);
        OpenPoll share = done(2);
        share.forge(12, 4, share.field(12, 4) + 2039);
        Check.equal("audit: s is no number", share.audit(), 12);
        share.forge(12, 4, share.field(12, 4) - 4078);
        Check.equal("audit: s is less than 0", share.audit(), 12);
        OpenPoll first = done(2);
        first.forge(16, 1, 7);
        first.forge(9, 1, 7);
        Check.equal("audit: the first of two", first.audit(), 9);
    }

    private static void audited(String what, int k, int field, int number, int due) {
        OpenPoll poll = done(2);
        poll.forge(k, field, number);
        Check.equal(what, poll.audit(), due);
    }

    private static void promise14AuditOfKinds() {
        // both ballots of one voter: one entry is due, the second one is too many
        OpenPoll fewer = closed(2);
        fewer.forge(3, 1, 1);
        fewer.forge(6, 1, fewer.field(4, 2));
        fewer.forge(6, 2, fewer.field(4, 3));
        Check.equal("audit: an entry too many", fewer.audit(), 7);
        // ballots of two voters: two entries are due, but mixing comes instead
        OpenPoll more = new OpenPoll();
        more.begin(1, 2, 3);
        more.register(0);
        more.register(1);
        more.cast(0, 2, 5);
        more.cast(0, 2, 5);
        more.close();
        more.forge(3, 1, 1);
        Check.equal("audit: an entry that is waited for is not wrong", more.audit(), -1);
        more.mix(1, 0);
        Check.equal("audit: an entry that lacks", more.audit(), 7);
        // room for CLOSED and three entries, or for CLOSED and one: then a forged ballot makes two due
        OpenPoll tight = voted(3);
        while (tight.records() < 156) {
            tight.cast(0, 1, 1);
        }
        tight.close();
        Check.equal("audit: a full board", tight.audit(), -1);
        OpenPoll over = new OpenPoll();
        over.begin(1, 2, 3);
        over.register(0);
        over.register(1);
        while (over.records() < 158) {
            over.cast(0, 1, 1);
        }
        over.close();
        over.forge(157, 1, 1);
        Check.equal("audit: closing that needs more room than there is", over.audit(), 158);
    }

    private static void promise14AuditOfTheResult() {
        // a ballot for no choice: A as it was, B another element, and the entry made to fit
        OpenPoll poll = closed(1);
        poll.open(2, 1);
        poll.open(1, 1);
        poll.open(0, 1);
        poll.finish();
        poll.forge(2, 3, Model.power(4, 4 + 23 * 10));
        poll.forge(4, 2, Model.power(4, 4 + 23 * 10));
        Check.equal("audit: a vote for no choice is none", poll.audit(), 8);
        poll.forge(8, 1, 0);
        Check.equal("audit: a result without it", poll.audit(), -1);
        poll.forge(2, 3, Model.power(4, 3 + 23 * 10));
        poll.forge(4, 2, Model.power(4, 3 + 23 * 10));
        poll.forge(8, 4, 1);
        Check.equal("audit: a result with another choice", poll.audit(), -1);
        poll.forge(8, 5, 1);
        Check.equal("audit: a number that is not named in a result", poll.audit(), 8);

        // the same key for all: the shares of one can stand for those of another
        OpenPoll same = new OpenPoll();
        same.begin(6, 6, 6);
        same.register(4);
        same.cast(4, 2, 9);
        same.close();
        same.open(0, 1);
        same.forge(5, 1, 2);
        Check.equal("audit: another trustee with the same key", same.audit(), -1);
        same.open(2, 1);
        Check.equal("audit: who then opens twice", same.audit(), 6);
        same.forge(6, 1, 0);
        Check.equal("audit: the two changed about", same.audit(), -1);
    }

    /** One of the equations holds, or both, but for a number that lies outside the elements. */
    private static void promise14AuditOfSharesThatOnlySeemProved() {
        int x = 7;
        int y = Model.power(4, x);
        int a = Model.power(4, 10);
        int d = Model.power(4, 10 * x);
        for (int k = 0; k < 40; k++) {
            int t = Model.power(4, k);
            int u = Model.power(4, 10 * k);
            seemsProved("another k", x, k, y, a, d, t, u, -1);
            seemsProved("D above P", x, k, y, a, d + Model.P, t, u, 5);
            seemsProved("t above P", x, k, y, a, d, t + Model.P, u, 5);
            seemsProved("u above P", x, k, y, a, d, t, u + Model.P, 5);
            seemsProved("another D", x, k, y, a, Model.times(d, 4), t, u, 5);
            seemsProved("another t", x, k, y, a, d, Model.times(t, 4), u, 5);
            seemsProved("another u", x, k, y, a, d, t, Model.times(u, 4), 5);
            // where c is even, (-D)^c is D^c
            seemsProved("minus D", x, k, y, a, Model.P - d, t, u, 5);
        }
    }

    private static void seemsProved(String what, int x, int k, int y, int a, int d, int t, int u, int due) {
        OpenPoll poll = closed(1);
        poll.open(1, 0);
        int c = Model.digestNumber(y, a, d, t, u);
        poll.forge(5, 3, d);
        poll.forge(5, 4, (k + c * x) % Model.Q);
        poll.forge(5, 5, t);
        poll.forge(5, 6, u);
        Check.equal("audit: a share with " + what, poll.audit(), due);
    }

    private static void promise15Leaf() {
        OpenPoll poll = done(2);
        for (int k = 0; k < poll.records(); k++) {
            Check.equal("leaf(" + k + ")", poll.leaf(k), leafOf(poll, k));
        }
        poll.forge(3, 6, MIN);
        Check.equal("leaf of a forged record", poll.leaf(3), leafOf(poll, 3));
        int[] wrong = {-1, poll.records(), MIN, MAX};
        for (int k : wrong) {
            Check.outOfBounds("leaf(" + k + ")", () -> poll.leaf(k));
        }
        OpenPoll known = new OpenPoll();
        known.begin(1, 2, 3);
        Check.equal("leaf: a known one", known.leaf(0), 4993551290674038155L);
    }

    private static long leafOf(OpenPoll poll, int k) {
        return Model.digest(0, poll.field(k, 0), poll.field(k, 1), poll.field(k, 2), poll.field(k, 3),
            poll.field(k, 4), poll.field(k, 5), poll.field(k, 6));
    }

    private static long node(long left, long right) {
        return Model.digest(1, left, right);
    }

    private static void promise16Head() {
        OpenPoll poll = done(2);
        long[] l = new long[7];
        for (int k = 0; k < 7; k++) {
            l[k] = poll.leaf(k);
        }
        long four = node(node(l[0], l[1]), node(l[2], l[3]));
        Check.equal("head(0)", poll.head(0), 0L);
        Check.equal("head(1)", poll.head(1), l[0]);
        Check.equal("head(2)", poll.head(2), node(l[0], l[1]));
        Check.equal("head(3)", poll.head(3), node(node(l[0], l[1]), l[2]));
        Check.equal("head(4)", poll.head(4), four);
        Check.equal("head(5)", poll.head(5), node(four, l[4]));
        Check.equal("head(6)", poll.head(6), node(four, node(l[4], l[5])));
        Check.equal("head(7)", poll.head(7), node(four, node(node(l[4], l[5]), l[6])));
        int[] wrong = {-1, poll.records() + 1, MIN, MAX};
        for (int n : wrong) {
            Check.outOfBounds("head(" + n + ")", () -> poll.head(n));
        }
        long before = poll.head(7);
        poll.forge(6, 5, 1);
        Check.isFalse("head of a forged board", before == poll.head(7));
        Check.equal("head before the forged record", poll.head(4), four);
    }

    private static void promise17Prove() {
        OpenPoll poll = done(2);
        Check.equal("prove(0, 1)", poll.prove(0, 1), 0);
        Check.equal("prove(2, 7)", poll.prove(2, 7), 3);
        Check.equal("prove(2, 7): first", poll.proof(0), poll.leaf(3));
        Check.equal("prove(2, 7): second", poll.proof(1), node(poll.leaf(0), poll.leaf(1)));
        Check.equal("prove(2, 7): third", poll.proof(2),
            node(node(poll.leaf(4), poll.leaf(5)), poll.leaf(6)));
        Check.equal("prove(6, 7)", poll.prove(6, 7), 2);
        Check.equal("prove(6, 7): first", poll.proof(0), node(poll.leaf(4), poll.leaf(5)));
        Check.equal("prove(6, 7): second", poll.proof(1), poll.head(4));
        int all = poll.records();
        Check.equal("prove of all", poll.prove(all - 1, all), 2);
        Check.outOfBounds("prove: k is n", () -> poll.prove(3, 3));
        Check.outOfBounds("prove: k is below 0", () -> poll.prove(-1, 3));
        Check.outOfBounds("prove: n is 0", () -> poll.prove(0, 0));
        Check.outOfBounds("prove: n is below 0", () -> poll.prove(-3, -2));
        Check.outOfBounds("prove: not so many", () -> poll.prove(0, all + 1));
        Check.outOfBounds("prove: MAX", () -> poll.prove(MAX - 1, MAX));
        Check.outOfBounds("prove: MIN", () -> poll.prove(MIN, 3));
        Check.equal("prove that threw: the proof stays", poll.proof(1), poll.head(16));
        OpenPoll full = votedUpTo(160);
        Check.equal("prove: full", full.prove(100, 160), 8);
    }

    private static void promise18Relate() {
        OpenPoll poll = done(2);
        Check.equal("relate(7, 7)", poll.relate(7, 7), 0);
        Check.equal("relate(4, 7)", poll.relate(4, 7), 1);
        Check.equal("relate(4, 7): first", poll.proof(0), node(node(poll.leaf(4), poll.leaf(5)), poll.leaf(6)));
        Check.equal("relate(3, 7)", poll.relate(3, 7), 4);
        Check.equal("relate(3, 7): first", poll.proof(0), poll.leaf(2));
        Check.equal("relate(3, 7): second", poll.proof(1), poll.leaf(3));
        Check.equal("relate(3, 7): third", poll.proof(2), node(poll.leaf(0), poll.leaf(1)));
        Check.equal("relate(3, 7): fourth", poll.proof(3), node(node(poll.leaf(4), poll.leaf(5)), poll.leaf(6)));
        Check.equal("relate(6, 7)", poll.relate(6, 7), 3);
        Check.equal("relate(6, 7): first", poll.proof(0), node(poll.leaf(4), poll.leaf(5)));
        Check.equal("relate(6, 7): second", poll.proof(1), poll.leaf(6));
        Check.equal("relate(6, 7): third", poll.proof(2), poll.head(4));
        Check.outOfBounds("relate: j is 0", () -> poll.relate(0, 3));
        Check.outOfBounds("relate: j is below 0", () -> poll.relate(-1, 3));
        Check.outOfBounds("relate: j is over n", () -> poll.relate(4, 3));
        Check.outOfBounds("relate: not so many", () -> poll.relate(1, poll.records() + 1));
        Check.outOfBounds("relate: both are 0", () -> poll.relate(0, 0));
        Check.outOfBounds("relate: MAX", () -> poll.relate(MAX, MAX));
        Check.outOfBounds("relate: MIN", () -> poll.relate(MIN, MIN));
        Check.equal("relate that threw: the proof stays", poll.proof(2), poll.head(4));
        Check.equal("relate: of a full board", votedUpTo(160).relate(127, 160), 9);
    }

    private static void promise19Proof() {
        OpenPoll poll = done(2);
        poll.prove(2, 4);
        long first = poll.leaf(3);
        long second = node(poll.leaf(0), poll.leaf(1));
        int[] wrong = {-1, 2, 3, 32, MIN, MAX};
        for (int i : wrong) {
            Check.outOfBounds("proof(" + i + ")", () -> poll.proof(i));
        }
        poll.forge(3, 1, 5);
        poll.forge(0, 1, 5);
        poll.head(18);
        Check.equal("proof: stays when the board is forged", poll.proof(0), first);
        poll.begin(0, 0, 0);
        Check.equal("proof: stays when the poll begins again", poll.proof(1), second);
        poll.prove(0, 1);
        Check.outOfBounds("proof: a new one has none", () -> poll.proof(0));
    }

    private static void promise20Shows() {
        OpenPoll poll = done(2);
        for (int n = 1; n <= poll.records(); n++) {
            for (int k = 0; k < n; k++) {
                poll.prove(k, n);
                Check.isTrue("shows(" + k + ", " + n + ")", poll.shows(k, n, poll.leaf(k), poll.head(n)));
                Check.isFalse("shows: another leaf", poll.shows(k, n, poll.leaf(k) + 1, poll.head(n)));
                Check.isFalse("shows: another head", poll.shows(k, n, poll.leaf(k), poll.head(n) + 1));
            }
        }
        poll.prove(2, 7);
        long leaf = poll.leaf(2);
        long head = poll.head(7);
        Check.isFalse("shows: another number", poll.shows(3, 7, leaf, head));
        Check.isFalse("shows: too few digests", poll.shows(2, 9, leaf, head));
        Check.isFalse("shows: too many digests", poll.shows(2, 4, leaf, head));
        Check.isFalse("shows: k is n", poll.shows(7, 7, leaf, head));
        Check.isFalse("shows: k is below 0", poll.shows(-1, 7, leaf, head));
        Check.isFalse("shows: n is 0", poll.shows(0, 0, leaf, head));
        Check.isFalse("shows: n is below 0", poll.shows(MIN, -1, leaf, head));
        Check.isFalse("shows: MAX", poll.shows(MAX - 1, MAX, leaf, head));
        Check.isTrue("shows: of a board of eight alike to the left", poll.shows(2, 8, leaf, head));
        poll.forge(2, 1, 1);
        Check.isTrue("shows: whatever the board is now", poll.shows(2, 7, leaf, head));
        // 2^30 + 1 records: the last one has the head of the others alone beside it
        poll.prove(1, 2);
        long known = node(poll.proof(0), 5L);
        Check.isTrue("shows: many records", poll.shows(1 << 30, (1 << 30) + 1, 5L, known));
        poll.relate(4, 7);
        Check.isTrue("shows: a proof of going on, taken so", poll.shows(0, 2, 5L, node(5L, poll.proof(0))));
    }

    private static void promise21Continues() {
        OpenPoll poll = done(2);
        for (int n = 1; n <= poll.records(); n++) {
            for (int j = 1; j <= n; j++) {
                poll.relate(j, n);
                String call = "continues(" + j + ", " + n + ")";
                Check.isTrue(call, poll.continues(j, n, poll.head(j), poll.head(n)));
                Check.isFalse(call + ": another before", poll.continues(j, n, poll.head(j) + 1, poll.head(n)));
                Check.isFalse(call + ": another after", poll.continues(j, n, poll.head(j), poll.head(n) + 1));
            }
        }
        poll.relate(3, 7);
        long before = poll.head(3);
        long after = poll.head(7);
        Check.isFalse("continues: too many digests", poll.continues(4, 7, before, after));
        Check.isFalse("continues: too few digests", poll.continues(3, 9, before, after));
        Check.isFalse("continues: j is 0", poll.continues(0, 7, before, after));
        Check.isFalse("continues: j is below 0", poll.continues(MIN, 7, before, after));
        Check.isFalse("continues: j is over n", poll.continues(8, 7, before, after));
        Check.isFalse("continues: both are 0", poll.continues(0, 0, 0, 0));
        Check.isFalse("continues: MAX", poll.continues(MAX - 1, MAX, before, after));
        Check.isFalse("continues: both MAX with digests", poll.continues(MAX, MAX, 1, 1));
        poll.forge(2, 1, 1);
        Check.isTrue("continues: whatever the board is now", poll.continues(3, 7, before, after));
        poll.relate(7, 7);
        Check.isTrue("continues: the same", poll.continues(MAX, MAX, 8, 8));
        Check.isFalse("continues: the same, but other heads", poll.continues(3, 3, 8, 9));
        poll.relate(1, 2);
        long other = poll.proof(0);
        Check.isTrue("continues: many records", poll.continues(1 << 30, (1 << 30) + 1, 5L, node(5L, other)));
        poll.prove(0, 2);
        Check.isTrue("continues: a proof of a record, taken so", poll.continues(1, 2, 5L, node(5L, other)));
    }

    private static void throwingChangesNothing() {
        OpenPoll[] polls = {new OpenPoll(), voted(2), closed(2), opened(2), done(2), votedUpTo(160), mixedUpTo(158)};
        for (int i = 0; i < polls.length; i++) {
            OpenPoll poll = polls[i];
            String before = board(poll);
            Check.outcome(Check.silent(() -> poll.begin(0, 0, 2039)));
            Check.outcome(Check.silent(() -> poll.register(0)));
            Check.outcome(Check.silent(() -> poll.register(11)));
            Check.outcome(() -> poll.cast(9, 0, 0));
            Check.outcome(() -> poll.cast(0, 4, 0));
            Check.outcome(Check.silent(() -> poll.mix(0, 2)));
            Check.outcome(Check.silent(() -> poll.open(3, 0)));
            Check.outcome(() -> poll.forge(0, 7, 1));
            Check.outcome(() -> poll.forge(160, 1, 1));
            Check.outcome(() -> poll.prove(5, 5));
            Check.outcome(() -> poll.relate(0, 1));
            if (i != 3) {
                Check.outcome(poll::finish);
            }
            if (i != 1) {
                Check.outcome(poll::close);
            }
            Check.equal("nothing changed behind throwing calls, poll " + i, board(poll), before);
        }
    }
}
