import java.util.ArrayList;
import java.util.Arrays;
import java.util.List;

/**
 * The document's terms in their plainest form, from the words of the document alone: relations by
 * comparing numbers, compositions and nearness by trying stretches, and what can be by trying one
 * relation after the other in the order of the first drawing. It shares nothing with the class.
 */
final class Plain {
    static final int ALL = 8191;
    static final int[][] STRETCHES = stretches(8);
    static final int[][] COMPOSED = composedFromStretches();
    static final int[][] STEPS = stepsFromStretches();
    private static final int[][] SAMPLES = samplesFromStretches();

    private Plain() {
    }

    static int relation(int pA, int pZ, int qA, int qZ) {
        if (pZ < qA) {
            return 0;
        }
        if (pZ == qA) {
            return 1;
        }
        if (pA < qA && qA < pZ && pZ < qZ) {
            return 2;
        }
        if (pA == qA && pZ < qZ) {
            return 3;
        }
        if (pA > qA && pZ < qZ) {
            return 4;
        }
        if (pA > qA && pZ == qZ) {
            return 5;
        }
        if (pA == qA && pZ == qZ) {
            return 6;
        }
        return 12 - relation(qA, qZ, pA, pZ);
    }

    private static int[][] stretches(int numbers) {
        List<int[]> found = new ArrayList<>();
        for (int a = 0; a < numbers; a++) {
            for (int z = a + 1; z < numbers; z++) {
                found.add(new int[] {a, z});
            }
        }
        return found.toArray(new int[0][]);
    }

    private static int relation(int[] p, int[] q) {
        return relation(p[0], p[1], q[0], q[1]);
    }

    private static int[][] composedFromStretches() {
        int[][] composed = new int[13][13];
        for (int[] p : STRETCHES) {
            for (int[] m : STRETCHES) {
                for (int[] q : STRETCHES) {
                    composed[relation(p, m)][relation(m, q)] |= 1 << relation(p, q);
                }
            }
        }
        return composed;
    }

    static boolean near(int r, int s) {
        return STEPS[r][s] == 1;
    }

    private static int[][] stepsFromStretches() {
        int[][] steps = new int[13][13];
        for (int r = 0; r < 13; r++) {
            for (int s = 0; s < 13; s++) {
                steps[r][s] = r == s ? 0 : 99;
            }
        }
        for (int[] p : STRETCHES) {
            for (int[] q : STRETCHES) {
                int r = relation(p, q);
                for (int change = 0; change < 8; change++) {
                    int[] n = {p[0], p[1], q[0], q[1]};
                    n[change / 2] += change % 2 == 0 ? 1 : -1;
                    if (n[0] < n[1] && n[2] < n[3]) {
                        int s = relation(n[0], n[1], n[2], n[3]);
                        steps[r][s] = Math.min(steps[r][s], 1);
                    }
                }
            }
        }
        for (int m = 0; m < 13; m++) {
            for (int r = 0; r < 13; r++) {
                for (int s = 0; s < 13; s++) {
                    steps[r][s] = Math.min(steps[r][s], steps[r][m] + steps[m][s]);
                }
            }
        }
        return steps;
    }

    static int turned(int set) {
        int found = 0;
        for (int r = 0; r < 13; r++) {
            if ((set & 1 << r) != 0) {
                found |= 1 << 12 - r;
            }
        }
        return found;
    }

    static int composed(int rs, int ss) {
        int found = 0;
        for (int r = 0; r < 13; r++) {
            for (int s = 0; s < 13; s++) {
                if ((rs & 1 << r) != 0 && (ss & 1 << s) != 0) {
                    found |= COMPOSED[r][s];
                }
            }
        }
        return found;
    }

    static int[][] open() {
        int[][] net = new int[6][6];
        for (int[] row : net) {
            Arrays.fill(row, ALL);
        }
        return net;
    }

    static int[][] copy(int[][] net) {
        int[][] made = new int[6][];
        for (int a = 0; a < 6; a++) {
            made[a] = net[a].clone();
        }
        return made;
    }

    static void narrow(int[][] net, int a, int b, int set) {
        net[a][b] &= set;
        net[b][a] = turned(net[a][b]);
    }

    /** Closes by paths, all threes again and again; false if a set is empty: then all are. */
    static boolean close(int[][] net) {
        boolean changed = true;
        while (changed) {
            changed = false;
            for (int a = 0; a < 6; a++) {
                for (int b = 0; b < 6; b++) {
                    for (int m = 0; m < 6; m++) {
                        if (a != b && a != m && b != m) {
                            int before = net[a][b];
                            narrow(net, a, b, composed(net[a][m], net[m][b]));
                            changed |= before != net[a][b];
                        }
                    }
                }
            }
        }
        for (int a = 0; a < 6; a++) {
            for (int b = 0; b < 6; b++) {
                if (a != b && net[a][b] == 0) {
                    for (int[] row : net) {
                        Arrays.fill(row, 0);
                    }
                    return false;
                }
            }
        }
        return true;
    }

    /** The first drawing's relations (a net of single ones), or null if it can't be. */
    static int[][] first(int[][] told) {
        int[][] net = copy(told);
        return close(net) ? first(net, 0, 1) : null;
    }

    private static int[][] first(int[][] closed, int a, int b) {
        if (a == 5) {
            numbers(closed);
            return closed;
        }
        int nextA = b == 5 ? a + 1 : a;
        int nextB = b == 5 ? a + 2 : b + 1;
        for (int r = 0; r < 13; r++) {
            if ((closed[a][b] & 1 << r) != 0) {
                int[][] net = copy(closed);
                narrow(net, a, b, 1 << r);
                if (close(net)) {
                    int[][] found = first(net, nextA, nextB);
                    if (found != null) {
                        return found;
                    }
                }
            }
        }
        return null;
    }

    /**
     * The numbers (thing * 2 + end) of a net of single relations, found by raising ends until all
     * bounds hold; it looks that the stretches really have those relations.
     */
    static int[] numbers(int[][] net) {
        int[] n = new int[12];
        int[] before;
        do {
            before = n.clone();
            for (int a = 0; a < 6; a++) {
                for (int b = 0; b < 6; b++) {
                    if (a != b) {
                        raise(n, a * 2, b * 2, Integer.numberOfTrailingZeros(net[a][b]));
                    }
                }
            }
        } while (!Arrays.equals(before, n) && Arrays.stream(n).max().getAsInt() < 12);
        List<Integer> ranks = Arrays.stream(n).sorted().distinct().boxed().toList();
        int[] ranked = new int[12];
        for (int end = 0; end < 12; end++) {
            ranked[end] = ranks.indexOf(n[end]);
        }
        for (int a = 0; a < 6; a++) {
            for (int b = 0; b < 6; b++) {
                int r = relation(ranked[a * 2], ranked[a * 2 + 1], ranked[b * 2], ranked[b * 2 + 1]);
                if (a != b && net[a][b] != 1 << r) {
                    throw new IllegalStateException("the closed net has no stretches");
                }
            }
        }
        return ranked;
    }

    /** Raises the ends of p and q that lie too low for the relation r of p to q. */
    private static void raise(int[] n, int p, int q, int r) {
        int[] sample = SAMPLES[r];
        int[] at = {p, p + 1, q, q + 1};
        for (int i = 0; i < 4; i++) {
            for (int j = 0; j < 4; j++) {
                if (sample[i] == sample[j]) {
                    n[at[i]] = Math.max(n[at[i]], n[at[j]]);
                }
                if (sample[i] > sample[j]) {
                    n[at[i]] = Math.max(n[at[i]], n[at[j]] + 1);
                }
            }
        }
    }

    /** Two stretches, as four numbers, for each relation. */
    private static int[][] samplesFromStretches() {
        int[][] samples = new int[13][];
        for (int[] p : STRETCHES) {
            for (int[] q : STRETCHES) {
                samples[relation(p, q)] = new int[] {p[0], p[1], q[0], q[1]};
            }
        }
        return samples;
    }

    static int can(int[][] told, int a, int b) {
        int found = 0;
        for (int r = 0; r < 13; r++) {
            if ((told[a][b] & 1 << r) != 0) {
                int[][] net = copy(told);
                narrow(net, a, b, 1 << r);
                if (first(net) != null) {
                    found |= 1 << r;
                }
            }
        }
        return found;
    }
}
