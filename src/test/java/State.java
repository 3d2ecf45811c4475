import java.util.function.Supplier;

/**
 * The states in which a call can meet a poll, those at the edges too: nobody has voted and all ten have, much room,
 * just enough, one record too little and none. Registered are the voters 0, 1, .., of these the first n have cast a
 * ballot, and opened have the trustees 0, 1, ...
 */
enum State implements Supplier<OpenPoll> {
    //                phase, registered, n, more ballots of voter 0, mixings, opened, records
    NEW(0, 0, 0, 0, 0, 0, 0),
    BEGUN(1, 0, 0, 0, 0, 0, 1),
    REGISTERED(1, 3, 0, 0, 0, 0, 4),
    ALL_REGISTERED(1, 10, 0, 0, 0, 0, 11),
    VOTED(1, 3, 2, 0, 0, 0, 6),
    ALL_VOTED(1, 10, 10, 0, 0, 0, 21),
    VOTED_JUST_ROOM(1, 10, 10, 128, 0, 0, 149),
    VOTED_TIGHT(1, 10, 10, 129, 0, 0, 150),
    VOTED_ONE_LEFT(1, 3, 1, 154, 0, 0, 159),
    VOTED_FULL(1, 3, 1, 155, 0, 0, 160),
    CLOSED_EMPTY(2, 3, 0, 0, 0, 0, 5),
    CLOSED(2, 3, 2, 0, 0, 0, 9),
    CLOSED_ALL(2, 10, 10, 0, 0, 0, 32),
    CLOSED_FULL(2, 3, 1, 153, 0, 0, 160),
    MIXED(2, 3, 2, 0, 2, 0, 15),
    MIXED_JUST_ROOM(2, 3, 2, 1, 49, 0, 157),
    MIXED_ROOM_TO_OPEN(2, 3, 2, 2, 49, 0, 158),
    MIXED_TIGHT(2, 3, 2, 0, 50, 0, 159),
    MIXED_ALL_TIGHT(2, 10, 10, 9, 10, 0, 151),
    MIXED_EMPTY_FULL(2, 3, 0, 0, 155, 0, 160),
    OPENED_ONE(3, 3, 2, 0, 1, 1, 14),
    OPENED_TWO(3, 3, 2, 0, 1, 2, 16),
    OPENED_ALL(3, 3, 2, 0, 1, 3, 18),
    OPENED_EMPTY(3, 3, 0, 0, 0, 3, 5),
    OPENED_ONE_TIGHT(3, 3, 2, 1, 49, 1, 159),
    OPENED_ONE_FULL(3, 3, 2, 2, 49, 1, 160),
    OPENED_TWO_EMPTY_FULL(3, 3, 0, 0, 155, 2, 160),
    OPENED_JUST_ROOM(3, 3, 2, 0, 48, 3, 159),
    OPENED_FULL(3, 3, 2, 1, 48, 3, 160),
    OPENED_EMPTY_FULL(3, 3, 0, 0, 155, 3, 160),
    DONE(4, 3, 2, 0, 1, 3, 19),
    DONE_ALL(4, 10, 10, 0, 1, 3, 74),
    DONE_EMPTY(4, 3, 0, 0, 0, 3, 6),
    DONE_FULL(4, 3, 2, 0, 48, 3, 160),
    BEGUN_AGAIN(1, 0, 0, 0, 0, 0, 1);

    final int phase;
    final int registered;
    final int n;
    private final int more;
    private final int mixings;
    final int opened;
    final int records;

    State(int phase, int registered, int n, int more, int mixings, int opened, int records) {
        this.phase = phase;
        this.registered = registered;
        this.n = n;
        this.more = more;
        this.mixings = mixings;
        this.opened = opened;
        this.records = records;
    }

    boolean isVoting() {
        return phase == 1;
    }

    boolean isMixing() {
        return phase == 2;
    }

    boolean isOpening() {
        return phase == 3;
    }

    boolean isDone() {
        return phase == 4;
    }

    int room() {
        return 160 - records;
    }

    /** A poll of its own in this state, made by some 170 calls at most. */
    @Override
    public OpenPoll get() {
        OpenPoll poll = this == BEGUN_AGAIN ? DONE_ALL.get() : new OpenPoll();
        if (phase >= 1) {
            poll.begin(5, 7, 11);
            vote(poll);
        }
        if (phase >= 2) {
            poll.close();
        }
        for (int i = 0; i < mixings; i++) {
            poll.mix(i, n < 2 ? 0 : i % 2);
        }
        for (int trustee = 0; trustee < opened; trustee++) {
            poll.open(trustee, 20 + trustee);
        }
        if (phase == 4) {
            poll.finish();
        }
        return poll;
    }

    private void vote(OpenPoll poll) {
        for (int voter = 0; voter < registered; voter++) {
            poll.register(voter);
        }
        for (int voter = 0; voter < n; voter++) {
            poll.cast(voter, voter % 4, 10 + voter);
        }
        for (int i = 0; i < more; i++) {
            poll.cast(0, 1, 1);
        }
    }
}
