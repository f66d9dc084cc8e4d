/**
 * Compares the class with a slow model that follows the words of the document's terms: on every
 * flow of up to four blocks, and on long runs of mixed calls, wrong ones among them.
 */
public final class ReferenceTest {
    private static final int CALLS_OF_AN_OBJECT = 512;

    private static int wrong = 0;
    private static long seed = 20261116L;

    public static void main(String[] args) {
        for (int n = 1; n <= 4; n++) {
            everyFlow(n);
        }
        for (int run = 0; run < 1500; run++) {
            mixedRun(run);
        }
        for (int run = 0; run < 40; run++) {
            denseRun(run);
        }
        System.out.println(wrong == 0 ? "all answers are the model's" : wrong + " answers are not the model's");
        if (wrong != 0) {
            System.exit(1);
        }
    }

    private static void due(String what, int got, int want) {
        if (got != want) {
            wrong++;
            if (wrong <= 50) {
                System.out.println(what + " answered " + got + ", the model says " + want);
            }
        }
    }

    private static int number(boolean is) {
        return is ? 1 : 0;
    }

    /** A fixed row of numbers that look mixed: below the bound, the same in every run. */
    private static int below(int bound) {
        seed = seed * 6364136223846793005L + 1442695040888963407L;
        return (int) ((seed >>> 33) % bound);
    }

    private static void everyFlow(int n) {
        for (int flow = 0; flow < 1 << n * n; flow++) {
            FlowShape x = new FlowShape();
            Model m = new Model();
            x.size(n);
            m.resize(n);
            for (int e = 0; e < n * n; e++) {
                if ((flow >> e & 1) == 1) {
                    x.edge(e / n, e % n, true);
                    m.edge(e / n, e % n, true);
                }
            }
            compareAll("flow " + flow + " of " + n, x, m);
        }
    }

    private static void compareAll(String what, FlowShape x, Model m) {
        due(what + ": reachedOnes()", x.reachedOnes(), m.countReached());
        for (int b = -1; b <= m.n; b++) {
            due(what + ": depth(" + b + ")", x.depth(b), m.depth(b));
            due(what + ": head(" + b + ")", number(x.head(b)), number(m.head(b)));
            due(what + ": dominator(" + b + ")", x.dominator(b), m.dominator(b));
            due(what + ": reached(" + b + ")", number(x.reached(b)), number(m.reached(b)));
            for (int a = -1; a <= m.n; a++) {
                due(what + ": dominates(" + a + ", " + b + ")", number(x.dominates(a, b)), number(m.dominates(a, b)));
                due(what + ": has(" + a + ", " + b + ")", number(x.has(a, b)), number(m.has(a, b)));
            }
        }
    }

    private static void mixedRun(int run) {
        FlowShape x = new FlowShape();
        Model m = new Model();
        int most = run % 3 == 0 ? 6 : run % 3 == 1 ? 14 : 40;
        int edgesInTen = 3 + run % 6;
        for (int call = 0; call < CALLS_OF_AN_OBJECT; call++) {
            if (call == 0 || below(150) == 0) {
                int n = below(12) == 0 ? below(2) * 201 : 1 + below(most);
                due("run " + run + ": size(" + n + ")", number(x.size(n)), number(m.resize(n)));
            } else if (below(10) < edgesInTen) {
                changeEdge(run, x, m, below(4) != 0);
            } else {
                ask(run, x, m);
            }
        }
    }

    private static void denseRun(int run) {
        FlowShape x = new FlowShape();
        Model m = new Model();
        int n = 150 + below(51);
        due("dense " + run + ": size(" + n + ")", number(x.size(n)), number(m.resize(n)));
        int chain = 0;
        for (int call = 1; call < 480; call++) {
            if (chain + 1 < n && below(3) != 0) {
                int from = Math.max(0, chain - below(3));
                chain++;
                setEdge(run, x, m, from, chain, true);
            } else {
                int from = below(chain + 1);
                setEdge(run, x, m, from, Math.max(0, from - below(12)), true);
            }
        }
        for (int call = 480; call < CALLS_OF_AN_OBJECT; call++) {
            ask(run, x, m);
        }
    }

    private static int anyBlock(Model m) {
        return below(25) == 0 ? below(2) * (m.n + 1) - 1 : below(m.n);
    }

    private static void changeEdge(int run, FlowShape x, Model m, boolean is) {
        int a = anyBlock(m);
        // Edges to near blocks make longer chains, and so more dominators, than any edges do.
        int b = below(2) == 0 ? anyBlock(m) : a + 1 - below(4) / 3 * 2;
        setEdge(run, x, m, a, b, is);
    }

    private static void setEdge(int run, FlowShape x, Model m, int a, int b, boolean is) {
        due("run " + run + ": edge(" + a + ", " + b + ", " + is + ")", number(x.edge(a, b, is)), number(m.edge(a, b, is)));
    }

    private static void ask(int run, FlowShape x, Model m) {
        int a = anyBlock(m);
        int b = anyBlock(m);
        String what = "run " + run + ": ";
        switch (below(7)) {
            case 0 -> due(what + "has(" + a + ", " + b + ")", number(x.has(a, b)), number(m.has(a, b)));
            case 1 -> due(what + "reached(" + b + ")", number(x.reached(b)), number(m.reached(b)));
            case 2 -> due(what + "reachedOnes()", x.reachedOnes(), m.countReached());
            case 3 -> due(what + "dominator(" + b + ")", x.dominator(b), m.dominator(b));
            case 4 -> due(what + "dominates(" + a + ", " + b + ")", number(x.dominates(a, b)), number(m.dominates(a, b)));
            case 5 -> due(what + "head(" + b + ")", number(x.head(b)), number(m.head(b)));
            default -> due(what + "depth(" + b + ")", x.depth(b), m.depth(b));
        }
    }

    /** The terms of the document, word by word, without a thought of speed. */
    private static final class Model {
        private int n = 1;
        private boolean[][] edges = new boolean[1][1];
        // What 0 reaches without each block, until an edge changes: else a run takes a minute.
        private boolean[][] kept = new boolean[2][];

        boolean resize(int size) {
            if (size < 1 || size > 200) {
                return false;
            }
            n = size;
            edges = new boolean[size][size];
            kept = new boolean[size + 1][];
            return true;
        }

        boolean isBlock(int b) {
            return b >= 0 && b < n;
        }

        boolean edge(int a, int b, boolean is) {
            if (!isBlock(a) || !isBlock(b)) {
                return false;
            }
            boolean isNew = edges[a][b] != is;
            edges[a][b] = is;
            kept = new boolean[n + 1][];
            return isNew;
        }

        boolean has(int a, int b) {
            return isBlock(a) && isBlock(b) && edges[a][b];
        }

        /** What can be reached from a block, itself among it, by ways that don't have the shut one. */
        boolean[] from(int start, int shut) {
            boolean[] seen = new boolean[n];
            int[] line = new int[n];
            int end = 0;
            if (start != shut) {
                seen[start] = true;
                line[end++] = start;
            }
            for (int i = 0; i < end; i++) {
                for (int to = 0; to < n; to++) {
                    if (edges[line[i]][to] && to != shut && !seen[to]) {
                        seen[to] = true;
                        line[end++] = to;
                    }
                }
            }
            return seen;
        }

        boolean[] fromFirst(int shut) {
            if (kept[shut + 1] == null) {
                kept[shut + 1] = from(0, shut);
            }
            return kept[shut + 1];
        }

        boolean reached(int b) {
            return isBlock(b) && fromFirst(-1)[b];
        }

        int countReached() {
            int sum = 0;
            for (boolean is : fromFirst(-1)) {
                sum += is ? 1 : 0;
            }
            return sum;
        }

        boolean dominates(int a, int b) {
            return reached(a) && reached(b) && !fromFirst(a)[b];
        }

        int dominator(int c) {
            if (c == 0 || !reached(c)) {
                return -1;
            }
            for (int d = 0; d < n; d++) {
                if (d != c && dominates(d, c) && allOthersDominate(d, c)) {
                    return d;
                }
            }
            return -2;
        }

        boolean allOthersDominate(int d, int c) {
            for (int other = 0; other < n; other++) {
                if (other != c && other != d && dominates(other, c) && !dominates(other, d)) {
                    return false;
                }
            }
            return true;
        }

        boolean[] dominatedWithEdgeTo(int h) {
            boolean[] all = fromFirst(-1);
            boolean[] without = fromFirst(h);
            boolean[] is = new boolean[n];
            for (int b = 0; b < n; b++) {
                is[b] = all[h] && all[b] && !without[b] && edges[b][h];
            }
            return is;
        }

        static boolean meet(boolean[] some, boolean[] others) {
            for (int i = 0; i < some.length; i++) {
                if (some[i] && others[i]) {
                    return true;
                }
            }
            return false;
        }

        boolean head(int h) {
            if (!isBlock(h)) {
                return false;
            }
            boolean[] ends = dominatedWithEdgeTo(h);
            return meet(ends, ends);
        }

        int depth(int b) {
            if (!isBlock(b)) {
                return -1;
            }
            int sum = 0;
            for (int h = 0; h < n; h++) {
                if (head(h) && reached(b) && (b == h || meet(from(b, h), dominatedWithEdgeTo(h)))) {
                    sum++;
                }
            }
            return sum;
        }
    }
}
