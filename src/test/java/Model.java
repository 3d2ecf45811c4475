import java.math.BigInteger;
import java.util.ArrayList;
import java.util.List;
import java.util.TreeMap;

/**
 * The document over again, in its own words and without haste: every answer is reckoned anew from two lists of
 * records, the true ones (which the steps follow) and the shown ones (which forging changes).
 */
final class Model {
    static final int P = 4079;
    static final int Q = 2039;
    static final int ROOM = 160;

    final List<int[]> truth = new ArrayList<>();
    final List<int[]> shown = new ArrayList<>();
    private List<Long> latest = new ArrayList<>();
    private int[] secrets = new int[3];
    private boolean[] opened = new boolean[3];
    int phase = 0;

    // ---- reckoning

    static int power(int base, long exponent) {
        BigInteger modulus = BigInteger.valueOf(P);
        return BigInteger.valueOf(base).modPow(BigInteger.valueOf(exponent), modulus).intValue();
    }

    static int times(int... factors) {
        BigInteger product = BigInteger.ONE;
        for (int factor : factors) {
            product = product.multiply(BigInteger.valueOf(factor));
        }
        return product.mod(BigInteger.valueOf(P)).intValue();
    }

    static boolean isElement(int e) {
        for (int i = 0, known = 1; i < Q; i++, known = known * 4 % P) {
            if (known == e) {
                return true;
            }
        }
        return false;
    }

    static boolean isNumber(int number) {
        return 0 <= number && number < Q;
    }

    static long digest(long... longs) {
        long h = 0;
        for (long x : longs) {
            h = (h ^ x) * 0x9E3779B97F4A7C15L;
            h = h ^ (h >>> 29);
        }
        return h >>> 1;
    }

    static int digestNumber(long... longs) {
        return (int) (digest(longs) % Q);
    }

    static int factorial(int n) {
        return n <= 1 ? 1 : n * factorial(n - 1);
    }

    // ---- records

    private static int[] record(int kind, int... numbers) {
        int[] record = new int[7];
        record[0] = kind;
        System.arraycopy(numbers, 0, record, 1, numbers.length);
        return record;
    }

    private int put(int kind, int... numbers) {
        truth.add(record(kind, numbers));
        shown.add(record(kind, numbers));
        return truth.size() - 1;
    }

    private boolean fits(int more) {
        return truth.size() + more <= ROOM;
    }

    private static boolean isRegistered(List<int[]> records, int before, int voter) {
        for (int k = 0; k < before; k++) {
            if (records.get(k)[0] == 1 && records.get(k)[1] == voter) {
                return true;
            }
        }
        return false;
    }

    private static int jointKey(List<int[]> records) {
        return times(records.get(0)[1], records.get(0)[2], records.get(0)[3]);
    }

    /** The last CLOSED or MIXED before a record, or -1. */
    private static int lastList(List<int[]> records, int before) {
        for (int k = before - 1; k >= 0; k--) {
            if (records.get(k)[0] == 3 || records.get(k)[0] == 4) {
                return k;
            }
        }
        return -1;
    }

    private static List<int[]> lastBallots(List<int[]> records, int before) {
        TreeMap<Integer, int[]> last = new TreeMap<>();
        for (int k = 0; k < before; k++) {
            int[] at = records.get(k);
            if (at[0] == 2) {
                last.put(at[1], new int[] {at[2], at[3]});
            }
        }
        return new ArrayList<>(last.values());
    }

    private static List<int[]> entriesBehind(List<int[]> records, int list, int n) {
        List<int[]> entries = new ArrayList<>();
        for (int i = 1; i <= n; i++) {
            entries.add(new int[] {records.get(list + i)[1], records.get(list + i)[2]});
        }
        return entries;
    }

    private static List<int[]> mixed(List<int[]> entries, int seed, int order, int joint) {
        List<int[]> left = new ArrayList<>(entries);
        List<int[]> made = new ArrayList<>();
        int rest = order;
        for (int i = 0; i < entries.size(); i++) {
            int divisor = entries.size() - i;
            int[] taken = left.remove(rest % divisor);
            rest /= divisor;
            int r = digestNumber(seed, i);
            made.add(new int[] {times(taken[0], power(4, r)), times(taken[1], power(joint, r))});
        }
        return made;
    }

    private static int[] counted(List<int[]> entries, List<int[]> shares) {
        int[] counts = new int[4];
        for (int place = 0; place < entries.size(); place++) {
            int product = 1;
            for (int[] share : shares) {
                if (share[2] == place) {
                    product = times(product, share[3]);
                }
            }
            for (int choice = 0; choice < 4; choice++) {
                if (times(product, power(4, choice)) == entries.get(place)[1]) {
                    counts[choice]++;
                }
            }
        }
        return counts;
    }

    // ---- the steps

    void begin(int x, int y, int z) {
        if (!isNumber(x) || !isNumber(y) || !isNumber(z)) {
            throw new IllegalArgumentException();
        }
        truth.clear();
        shown.clear();
        secrets = new int[] {x, y, z};
        opened = new boolean[3];
        put(0, power(4, x), power(4, y), power(4, z));
        phase = 1;
    }

    void register(int voter) {
        if (voter < 0 || voter > 9) {
            throw new IllegalArgumentException();
        }
        if (phase != 1 || isRegistered(truth, truth.size(), voter)) {
            throw new IllegalStateException();
        }
        if (!fits(1)) {
            throw new UnsupportedOperationException();
        }
        put(1, voter);
    }

    int cast(int voter, int choice, int r) {
        if (voter < 0 || voter > 9 || choice < 0 || choice > 3 || !isNumber(r)) {
            throw new IllegalArgumentException();
        }
        if (phase != 1 || !isRegistered(truth, truth.size(), voter)) {
            throw new IllegalStateException();
        }
        if (!fits(1)) {
            throw new UnsupportedOperationException();
        }
        return put(2, voter, power(4, r), times(power(4, choice), power(jointKey(truth), r)));
    }

    int close() {
        if (phase != 1) {
            throw new IllegalStateException();
        }
        List<int[]> entries = lastBallots(truth, truth.size());
        if (!fits(1 + entries.size())) {
            throw new UnsupportedOperationException();
        }
        put(3);
        for (int[] entry : entries) {
            put(5, entry);
        }
        phase = 2;
        return entries.size();
    }

    private int entryCount() {
        return lastBallots(truth, truth.size()).size();
    }

    private List<int[]> entries() {
        return entriesBehind(truth, lastList(truth, truth.size()), entryCount());
    }

    void mix(int seed, int order) {
        if (phase != 2) {
            throw new IllegalStateException();
        }
        if (order < 0 || order >= factorial(entryCount())) {
            throw new IllegalArgumentException();
        }
        if (!fits(1 + entryCount())) {
            throw new UnsupportedOperationException();
        }
        List<int[]> made = mixed(entries(), seed, order, jointKey(truth));
        put(4, seed, order);
        for (int[] entry : made) {
            put(5, entry);
        }
    }

    static int[] share(int trustee, int place, int a, int key, int secret, int k) {
        int d = power(a, secret);
        int t = power(4, k);
        int u = power(a, k);
        int c = digestNumber(key, a, d, t, u);
        int s = (int) ((k + (long) c * secret) % Q);
        return new int[] {trustee, place, d, s, t, u};
    }

    void open(int trustee, int seed) {
        if (trustee < 0 || trustee > 2) {
            throw new IllegalArgumentException();
        }
        if ((phase != 2 && phase != 3) || opened[trustee]) {
            throw new IllegalStateException();
        }
        if (!fits(entryCount())) {
            throw new UnsupportedOperationException();
        }
        List<int[]> entries = entries();
        for (int i = 0; i < entries.size(); i++) {
            int k = digestNumber(seed, trustee, i);
            put(6, share(trustee, i, entries.get(i)[0], truth.get(0)[1 + trustee], secrets[trustee], k));
        }
        opened[trustee] = true;
        phase = 3;
    }

    private static List<int[]> shares(List<int[]> records, int before) {
        List<int[]> shares = new ArrayList<>();
        for (int k = 0; k < before; k++) {
            if (records.get(k)[0] == 6) {
                shares.add(records.get(k));
            }
        }
        return shares;
    }

    int finish() {
        if (phase != 3 || !opened[0] || !opened[1] || !opened[2]) {
            throw new IllegalStateException();
        }
        if (!fits(1)) {
            throw new UnsupportedOperationException();
        }
        int[] counts = counted(entries(), shares(truth, truth.size()));
        put(7, counts);
        phase = 4;
        return counts[0] + counts[1] + counts[2] + counts[3];
    }

    int votes(int choice) {
        if (choice < 0 || choice > 3) {
            throw new IllegalArgumentException();
        }
        return phase == 4 ? truth.get(truth.size() - 1)[1 + choice] : -1;
    }

    // ---- the board

    private void mustHave(boolean there) {
        if (!there) {
            throw new IndexOutOfBoundsException();
        }
    }

    int field(int k, int field) {
        mustHave(0 <= k && k < shown.size() && 0 <= field && field <= 6);
        return shown.get(k)[field];
    }

    int forge(int k, int field, int number) {
        mustHave(0 <= k && k < shown.size() && 1 <= field && field <= 6);
        int was = shown.get(k)[field];
        shown.get(k)[field] = number;
        return was;
    }

    int audit() {
        for (int k = 0; k < shown.size(); k++) {
            if (!stands(shown, k)) {
                return k;
            }
        }
        return -1;
    }

    /** Whether record k could stand there, when all those before it do. */
    static boolean stands(List<int[]> records, int k) {
        int[] at = records.get(k);
        int[] named = {3, 1, 3, 0, 2, 2, 6, 4};
        for (int f = named[at[0]]; f < 6; f++) {
            if (at[1 + f] != 0) {
                return false;
            }
        }
        if (k == 0) {
            return at[0] == 0 && isElement(at[1]) && isElement(at[2]) && isElement(at[3]);
        }
        int list = lastList(records, k);
        return list < 0 ? standsVoting(records, k) : standsClosed(records, k, list);
    }

    private static boolean standsVoting(List<int[]> records, int k) {
        int[] at = records.get(k);
        if (at[0] == 1) {
            return at[1] >= 0 && at[1] <= 9 && !isRegistered(records, k, at[1]);
        }
        if (at[0] == 2) {
            return isRegistered(records, k, at[1]) && isElement(at[2]) && isElement(at[3]);
        }
        return at[0] == 3 && k + 1 + lastBallots(records, k).size() <= ROOM;
    }

    private static boolean standsClosed(List<int[]> records, int k, int list) {
        int[] at = records.get(k);
        int n = lastBallots(records, k).size();
        if (k <= list + n) {
            return at[0] == 5 && standsEntry(records, k, list, n);
        }
        if (records.get(k - 1)[0] == 7) {
            return false;
        }
        int gone = k - (list + n + 1);
        if (at[0] == 4) {
            return gone == 0 && at[2] >= 0 && at[2] < factorial(n);
        }
        if (at[0] == 6) {
            return gone < 3 * n && standsShare(records, k, entriesBehind(records, list, n), gone);
        }
        return at[0] == 7 && gone == 3 * n && standsResult(records, k, entriesBehind(records, list, n));
    }

    private static boolean standsEntry(List<int[]> records, int k, int list, int n) {
        List<int[]> due = lastBallots(records, k);
        if (records.get(list)[0] == 4) {
            List<int[]> old = entriesBehind(records, list - n - 1, n);
            due = mixed(old, records.get(list)[1], records.get(list)[2], jointKey(records));
        }
        int[] entry = due.get(k - list - 1);
        return records.get(k)[1] == entry[0] && records.get(k)[2] == entry[1];
    }

    private static boolean standsShare(List<int[]> records, int k, List<int[]> entries, int gone) {
        int[] at = records.get(k);
        int trustee = at[1];
        int place = at[2];
        if (trustee < 0 || trustee > 2 || place != gone % entries.size()) {
            return false;
        }
        for (int other = k - gone; other < k; other++) {
            boolean sameRow = other >= k - place;
            if (sameRow != (records.get(other)[1] == trustee)) {
                return false;
            }
        }
        if (!isElement(at[3]) || !isNumber(at[4]) || !isElement(at[5]) || !isElement(at[6])) {
            return false;
        }
        int key = records.get(0)[1 + trustee];
        int a = entries.get(place)[0];
        int c = digestNumber(key, a, at[3], at[5], at[6]);
        return power(4, at[4]) == times(at[5], power(key, c)) && power(a, at[4]) == times(at[6], power(at[3], c));
    }

    private static boolean standsResult(List<int[]> records, int k, List<int[]> entries) {
        int[] counts = counted(entries, shares(records, k));
        for (int choice = 0; choice < 4; choice++) {
            if (records.get(k)[1 + choice] != counts[choice]) {
                return false;
            }
        }
        return true;
    }

    // ---- the tree

    long leaf(int k) {
        mustHave(0 <= k && k < shown.size());
        int[] at = shown.get(k);
        return digest(0, at[0], at[1], at[2], at[3], at[4], at[5], at[6]);
    }

    private static long m(long n) {
        long m = 1;
        while (2 * m < n) {
            m *= 2;
        }
        return m;
    }

    private long headOf(int from, int n) {
        if (n == 0) {
            return 0;
        }
        if (n == 1) {
            return leaf(from);
        }
        int m = (int) m(n);
        return digest(1, headOf(from, m), headOf(from + m, n - m));
    }

    long head(int n) {
        mustHave(0 <= n && n <= shown.size());
        return headOf(0, n);
    }

    private void provePart(List<Long> to, int from, int k, int n) {
        if (n == 1) {
            return;
        }
        int m = (int) m(n);
        if (k < m) {
            provePart(to, from, k, m);
            to.add(headOf(from + m, n - m));
        } else {
            provePart(to, from + m, k - m, n - m);
            to.add(headOf(from, m));
        }
    }

    int prove(int k, int n) {
        mustHave(0 <= k && k < n && n <= shown.size());
        List<Long> made = new ArrayList<>();
        provePart(made, 0, k, n);
        latest = made;
        return made.size();
    }

    private void relatePart(List<Long> to, int from, int j, int n, boolean b) {
        if (j == n) {
            if (!b) {
                to.add(headOf(from, n));
            }
            return;
        }
        int m = (int) m(n);
        if (j <= m) {
            relatePart(to, from, j, m, b);
            to.add(headOf(from + m, n - m));
        } else {
            relatePart(to, from + m, j - m, n - m, false);
            to.add(headOf(from, m));
        }
    }

    int relate(int j, int n) {
        mustHave(1 <= j && j <= n && n <= shown.size());
        List<Long> made = new ArrayList<>();
        relatePart(made, 0, j, n, true);
        latest = made;
        return made.size();
    }

    long proof(int i) {
        mustHave(0 <= i && i < latest.size());
        return latest.get(i);
    }

    int proofLength() {
        return latest.size();
    }

    /** The head that the first digests of a proof make with a leaf, or null if there are too many or too few. */
    private static Long showing(List<Long> digests, long k, long n, long leaf) {
        if (n == 1) {
            return digests.isEmpty() ? leaf : null;
        }
        if (digests.isEmpty()) {
            return null;
        }
        long m = m(n);
        long other = digests.get(digests.size() - 1);
        List<Long> inner = digests.subList(0, digests.size() - 1);
        Long part = k < m ? showing(inner, k, m, leaf) : showing(inner, k - m, n - m, leaf);
        if (part == null) {
            return null;
        }
        return k < m ? digest(1, part, other) : digest(1, other, part);
    }

    boolean shows(int k, int n, long leaf, long head) {
        if (k < 0 || k >= n) {
            return false;
        }
        Long made = showing(latest, k, n, leaf);
        return made != null && made == head;
    }

    /** Both heads that a proof makes, that of the first j and that of the first n, or null. */
    private static long[] continuing(List<Long> digests, long j, long n, boolean b, long before) {
        if (j == n) {
            if (digests.size() != (b ? 0 : 1)) {
                return null;
            }
            long known = b ? before : digests.get(0);
            return new long[] {known, known};
        }
        if (digests.isEmpty()) {
            return null;
        }
        long m = m(n);
        long other = digests.get(digests.size() - 1);
        List<Long> inner = digests.subList(0, digests.size() - 1);
        if (j <= m) {
            long[] part = continuing(inner, j, m, b, before);
            return part == null ? null : new long[] {part[0], digest(1, part[1], other)};
        }
        long[] part = continuing(inner, j - m, n - m, false, before);
        return part == null ? null : new long[] {digest(1, other, part[0]), digest(1, other, part[1])};
    }

    boolean continues(int j, int n, long before, long after) {
        if (j < 1 || j > n) {
            return false;
        }
        long[] made = continuing(latest, j, n, true, before);
        return made != null && made[0] == before && made[1] == after;
    }
}
