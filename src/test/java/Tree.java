import java.util.ArrayList;
import java.util.List;

/** The document's tree over given leaves, by its own recursion; widths are longs, so that none is too great. */
final class Tree {
    private Tree() {
    }

    static long node(long left, long right) {
        return Model.digest(1, left, right);
    }

    /** The greatest power of two less than n. */
    static long split(long n) {
        long m = 1;
        while (2 * m < n) {
            m *= 2;
        }
        return m;
    }

    static long head(long[] leaves, int from, int n) {
        if (n == 0) {
            return 0;
        }
        if (n == 1) {
            return leaves[from];
        }
        int m = (int) split(n);
        return node(head(leaves, from, m), head(leaves, from + m, n - m));
    }

    static List<Long> proof(long[] leaves, int from, int k, int n) {
        if (n == 1) {
            return new ArrayList<>();
        }
        int m = (int) split(n);
        boolean first = k < m;
        List<Long> proof = first ? proof(leaves, from, k, m) : proof(leaves, from + m, k - m, n - m);
        proof.add(first ? head(leaves, from + m, n - m) : head(leaves, from, m));
        return proof;
    }

    static List<Long> goingOn(long[] leaves, int from, int j, int n, boolean b) {
        List<Long> proof = new ArrayList<>();
        if (j == n) {
            if (!b) {
                proof.add(head(leaves, from, n));
            }
            return proof;
        }
        int m = (int) split(n);
        boolean first = j <= m;
        proof = first ? goingOn(leaves, from, j, m, b) : goingOn(leaves, from + m, j - m, n - m, false);
        proof.add(first ? head(leaves, from + m, n - m) : head(leaves, from, m));
        return proof;
    }

    /** The head that a proof makes with a leaf; null if it has more or fewer digests than it must. */
    static Long shown(List<Long> proof, long k, long n, long leaf) {
        if (n == 1 || proof.isEmpty()) {
            return n == 1 && proof.isEmpty() ? leaf : null;
        }
        long m = split(n);
        long last = proof.get(proof.size() - 1);
        List<Long> rest = proof.subList(0, proof.size() - 1);
        Long part = k < m ? shown(rest, k, m, leaf) : shown(rest, k - m, n - m, leaf);
        if (part == null) {
            return null;
        }
        return k < m ? node(part, last) : node(last, part);
    }

    /** The heads of the first j and of the first n that a proof makes; null if it has more or fewer digests. */
    static long[] continued(List<Long> proof, long j, long n, boolean b, long before) {
        if (j == n) {
            if (proof.size() != (b ? 0 : 1)) {
                return null;
            }
            long known = b ? before : proof.get(0);
            return new long[] {known, known};
        }
        if (proof.isEmpty()) {
            return null;
        }
        long m = split(n);
        long last = proof.get(proof.size() - 1);
        List<Long> rest = proof.subList(0, proof.size() - 1);
        boolean first = j <= m;
        long[] part = first ? continued(rest, j, m, b, before) : continued(rest, j - m, n - m, false, before);
        if (part == null) {
            return null;
        }
        return first ? new long[] {part[0], node(part[1], last)}
            : new long[] {node(last, part[0]), node(last, part[1])};
    }
}
