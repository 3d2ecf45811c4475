import java.util.Random;

/** Runs of calls on an OpenPoll and on the Model side by side; after each, everything that shows must agree. */
public final class ModelTest {
    private static final int[] ODD = {Integer.MIN_VALUE, -2039, -1, 0, 1, 2, 3, 4, 5, 6, 9, 10, 2038, 2039, 4078, 4079,
        4083, 1 << 30, Integer.MAX_VALUE};

    private final Random random;
    private OpenPoll real = new OpenPoll();
    private Model model = new Model();
    private String told = "";

    private ModelTest(long seed) {
        random = new Random(seed);
        told = "run " + seed;
    }

    public static void main(String[] args) {
        for (int run = 0; run < 150; run++) {
            new ModelTest(run).wildRun();
            new ModelTest(1000 + run).wholePoll(run % 11);
        }
        for (int run = 0; run < 24; run++) {
            new ModelTest(2000 + run).fullBoard(run % 6);
            new ModelTest(3000 + run).otherPollForged(run % 11);
        }
        for (int run = 0; run < 40; run++) {
            new ModelTest(4000 + run).shareForged();
            new ModelTest(5000 + run).ballotForged();
        }
        Check.end();
    }

    // ---- one call on both

    private String both(String call, Check.Call ofReal, Check.Call ofModel) {
        String got = Check.outcome(ofReal);
        Check.equal(told + ": " + call, got, Check.outcome(ofModel));
        return got;
    }

    private void begin(int x, int y, int z) {
        both("begin(" + x + ", " + y + ", " + z + ")", Check.silent(() -> real.begin(x, y, z)),
            Check.silent(() -> model.begin(x, y, z)));
    }

    private void register(int voter) {
        both("register(" + voter + ")", Check.silent(() -> real.register(voter)),
            Check.silent(() -> model.register(voter)));
    }

    private void cast(int voter, int choice, int r) {
        both("cast(" + voter + ", " + choice + ", " + r + ")", () -> real.cast(voter, choice, r),
            () -> model.cast(voter, choice, r));
    }

    private String close() {
        return both("close()", () -> real.close(), () -> model.close());
    }

    private void mix(int seed, int order) {
        both("mix(" + seed + ", " + order + ")", Check.silent(() -> real.mix(seed, order)),
            Check.silent(() -> model.mix(seed, order)));
    }

    private void open(int trustee, int seed) {
        both("open(" + trustee + ", " + seed + ")", Check.silent(() -> real.open(trustee, seed)),
            Check.silent(() -> model.open(trustee, seed)));
    }

    private void finish() {
        both("finish()", () -> real.finish(), () -> model.finish());
    }

    private void forge(int k, int field, int number) {
        both("forge(" + k + ", " + field + ", " + number + ")", () -> real.forge(k, field, number),
            () -> model.forge(k, field, number));
    }

    private void audit() {
        both("audit()", () -> real.audit(), () -> model.audit());
    }

    private void prove(int k, int n) {
        both("prove(" + k + ", " + n + ")", () -> real.prove(k, n), () -> model.prove(k, n));
        sameProof();
    }

    private void relate(int j, int n) {
        both("relate(" + j + ", " + n + ")", () -> real.relate(j, n), () -> model.relate(j, n));
        sameProof();
    }

    private void sameProof() {
        for (int i = -1; i <= model.proofLength(); i++) {
            int at = i;
            both("proof(" + i + ")", () -> real.proof(at), () -> model.proof(at));
        }
    }

    private void shows(int k, int n, long leaf, long head) {
        both("shows(" + k + ", " + n + ", " + leaf + ", " + head + ")", () -> real.shows(k, n, leaf, head),
            () -> model.shows(k, n, leaf, head));
    }

    private void continues(int j, int n, long before, long after) {
        both("continues(" + j + ", " + n + ", " + before + ", " + after + ")",
            () -> real.continues(j, n, before, after), () -> model.continues(j, n, before, after));
    }

    private void sameAll() {
        Check.equal(told + ": phase()", real.phase(), model.phase);
        Check.equal(told + ": records()", real.records(), model.shown.size());
        for (int choice = -1; choice <= 4; choice++) {
            int at = choice;
            both("votes(" + choice + ")", () -> real.votes(at), () -> model.votes(at));
        }
        for (int k = -1; k <= model.shown.size(); k++) {
            int at = k;
            for (int field = -1; field <= 7; field++) {
                int which = field;
                both("field(" + k + ", " + field + ")", () -> real.field(at, which), () -> model.field(at, which));
            }
            both("leaf(" + k + ")", () -> real.leaf(at), () -> model.leaf(at));
        }
        audit();
    }

    private void sameHeads() {
        for (int n = -1; n <= model.shown.size() + 1; n++) {
            int at = n;
            both("head(" + n + ")", () -> real.head(at), () -> model.head(at));
        }
    }

    // ---- random arguments

    private int below(int bound) {
        return random.nextInt(bound);
    }

    private int odd() {
        return ODD[below(ODD.length)];
    }

    private int mostly(int low, int count) {
        return below(12) == 0 ? odd() : low + below(count);
    }

    private void randomCheck() {
        int size = model.shown.size();
        int n = below(4) == 0 ? mostly(0, 300) : below(size + 2);
        int k = below(8) == 0 ? odd() : below(Math.max(1, Math.min(n, 400)) + 1);
        switch (below(4)) {
            case 0:
                prove(k, n);
                break;
            case 1:
                relate(k, n);
                break;
            case 2:
                shows(k, n, anyLeaf(k), anyHead(n));
                break;
            default:
                continues(k, n, anyHead(k), anyHead(n));
        }
    }

    private long anyLeaf(int k) {
        return 0 <= k && k < model.shown.size() ? model.leaf(k) : odd();
    }

    private long anyHead(int n) {
        return 0 <= n && n <= model.shown.size() && below(8) != 0 ? model.head(n) : odd();
    }

    private void randomForge() {
        int size = model.shown.size();
        int k = mostly(0, Math.max(1, size));
        int field = mostly(1, 6);
        int number = odd();
        switch (below(4)) {
            case 0:
                number = Model.power(4, below(Model.Q));
                break;
            case 1:
                number = below(4);
                break;
            case 2:
                if (0 <= k && k < size && 1 <= field && field <= 6) {
                    number = model.truth.get(k)[field];
                }
                break;
            default:
        }
        forge(k, field, number);
    }

    // ---- runs

    private void wildRun() {
        sameAll();
        for (int call = 0; call < 120; call++) {
            switch (below(16)) {
                case 0:
                    if (model.phase == 0 || below(8) == 0) {
                        begin(mostly(0, 2039), mostly(0, 2039), mostly(0, 2039));
                    }
                    break;
                case 1:
                case 2:
                    register(mostly(0, 10));
                    break;
                case 3:
                case 4:
                case 5:
                    cast(mostly(0, 10), mostly(0, 4), mostly(0, 2039));
                    break;
                case 6:
                    if (below(4) == 0) {
                        close();
                    }
                    break;
                case 7:
                case 8:
                    mix(random.nextInt(), mostly(0, 24));
                    break;
                case 9:
                    open(mostly(0, 3), random.nextInt());
                    break;
                case 10:
                    finish();
                    break;
                case 11:
                    randomForge();
                    break;
                default:
                    randomCheck();
            }
            audit();
        }
        sameAll();
        sameHeads();
    }

    private void voting(int voters) {
        begin(below(2039), below(2039), below(2039));
        for (int i = 0; i < voters; i++) {
            register((i * 7 + 3) % 10);
        }
        if (voters < 10 && below(2) == 0) {
            register((voters * 7 + 3) % 10);
        }
        for (int i = 0; i < voters; i++) {
            cast((i * 7 + 3) % 10, below(4), below(2039));
        }
        for (int i = 0; i < 5 && voters > 0; i++) {
            cast((below(voters) * 7 + 3) % 10, below(4), below(2039));
        }
    }

    private void after(int voters) {
        close();
        for (int i = below(3); i > 0; i--) {
            mix(random.nextInt(), below(Model.factorial(voters)));
        }
        int first = below(3);
        int turn = 1 + below(2);
        for (int i = 0; i < 3; i++) {
            finish();
            open((first + i * turn) % 3, random.nextInt());
        }
        finish();
    }

    private void wholePoll(int voters) {
        voting(voters);
        sameAll();
        after(voters);
        sameAll();
        sameHeads();
        for (int i = 0; i < 60; i++) {
            int k = below(model.shown.size());
            int field = 1 + below(6);
            int was = model.shown.get(k)[field];
            randomForge();
            forge(k, field, below(2) == 0 ? odd() : Model.power(4, below(Model.Q)));
            audit();
            forge(k, field, was);
            audit();
            randomCheck();
            for (int back = 0; back < model.shown.size(); back++) {
                for (int f = 1; f <= 6; f++) {
                    if (model.shown.get(back)[f] != model.truth.get(back)[f]) {
                        forge(back, f, model.truth.get(back)[f]);
                    }
                }
            }
        }
        Check.equal(told + ": audit of what was put right again", real.audit(), -1);
    }

    /** The board is filled until this many records are left, and the steps to come meet its end. */
    private void fullBoard(int left) {
        begin(below(2039), below(2039), below(2039));
        int voters = below(4);
        for (int i = 0; i < 4; i++) {
            register(i);
        }
        for (int i = 0; i < voters; i++) {
            cast(i, below(4), below(2039));
        }
        if (below(2) == 0) {
            while (voters > 0 && model.shown.size() < Model.ROOM - left) {
                cast(below(voters), below(4), below(2039));
            }
            register(9);
            register(8);
            audit();
            if (voters > 0) {
                forge(model.shown.size() - 1, 1, 3);
                close();
                audit();
            }
        } else {
            close();
            while (model.shown.size() + 1 + voters <= Model.ROOM - left * voters) {
                mix(random.nextInt(), below(Model.factorial(voters)));
            }
        }
        cast(0, 0, 0);
        close();
        mix(1, 0);
        mix(2, 0);
        for (int trustee = 0; trustee < 3; trustee++) {
            open(trustee, 5);
        }
        finish();
        sameAll();
        sameHeads();
        begin(1, 2, 3);
        sameAll();
    }

    /** The numbers of another poll with the same kinds of record are written over all of this one. */
    private void otherPollForged(int voters) {
        ModelTest other = new ModelTest(below(1000000));
        ModelTest[] pair = {this, other};
        for (ModelTest one : pair) {
            one.begin(one.below(2039), one.below(2039), one.below(2039));
            for (int i = 0; i < voters; i++) {
                one.register(i);
                one.cast(i, one.below(4), one.below(2039));
            }
            one.close();
            one.mix(one.random.nextInt(), one.below(Model.factorial(voters)));
            int first = one.below(3);
            for (int i = 0; i < 3; i++) {
                one.open((first + i) % 3, one.random.nextInt());
            }
            one.finish();
        }
        for (int k = 0; k < model.shown.size(); k++) {
            for (int field = 1; field <= 6; field++) {
                forge(k, field, other.real.field(k, field));
            }
            audit();
        }
        Check.equal(told + ": audit of another poll's board", real.audit(), -1);
        Check.equal(told + ": head of another poll's board", real.head(real.records()),
            other.real.head(other.real.records()));
        sameAll();
    }

    /** Shares with other proofs, of other secrets, in another order of the trustees. */
    private void shareForged() {
        int voters = 1 + below(3);
        int secret = below(2039);
        begin(secret, secret, below(2) == 0 ? secret : below(2039));
        for (int i = 0; i < voters; i++) {
            register(i);
            cast(i, below(4), below(2039));
        }
        close();
        for (int i = 0; i < 3; i++) {
            open(i, i);
        }
        finish();
        int firstShare = 2 + 3 * voters;
        int row = below(3);
        int trustee = below(3);
        int used = below(3) == 0 ? below(2039) : secret;
        for (int place = 0; place < voters; place++) {
            int k = firstShare + row * voters + place;
            int a = model.shown.get(2 + 2 * voters + place)[1];
            int[] share = Model.share(trustee, place, a, model.shown.get(0)[1 + trustee], used, below(2039));
            for (int f = 0; f < 6; f++) {
                forge(k, f + 1, share[f]);
            }
            audit();
            forge(k, 4, share[3] + Model.Q);
            audit();
            forge(k, 4, share[3]);
            forge(k, 3, share[2] + Model.P);
            audit();
            forge(k, 3, share[2]);
        }
        sameAll();
    }

    /** Ballots for no choice, and of other voters, with the entries made to fit. */
    private void ballotForged() {
        int voters = 2 + below(3);
        begin(below(2039), below(2039), below(2039));
        for (int i = 0; i < voters; i++) {
            register(i);
        }
        for (int i = 0; i < voters; i++) {
            cast(i, i % 4, below(2) == 0 ? 7 : below(2039));
        }
        cast(below(voters), below(4), 7);
        close();
        for (int i = 0; i < 3; i++) {
            open(i, i);
        }
        finish();
        int ballot = 1 + voters + below(voters + 1);
        int b = Model.power(4, below(2039));
        forge(ballot, 3, b);
        audit();
        for (int place = 0; place < voters; place++) {
            if (model.audit() >= 0 && model.shown.get(model.audit())[0] == 5) {
                forge(model.audit(), 2, b);
            }
            audit();
        }
        audit();
        for (int i = 0; i < 5; i++) {
            forge(model.shown.size() - 1, 1 + below(4), below(3));
            audit();
        }
        forge(ballot, 1, below(voters));
        audit();
        forge(1 + below(voters), 1, below(voters + 1));
        audit();
        sameAll();
    }
}
