/** The promises of the document one by one: ordinary inputs, the edges it names, and wrong inputs. */
public final class PromiseTest {
    private static final int[] NEVER_BLOCKS = {
        -1, -2, -64, -200, 200, 201, 255, 256, 1000, Integer.MIN_VALUE, Integer.MAX_VALUE
    };

    private static int wrong = 0;

    public static void main(String[] args) {
        newObject();
        sizeLimits();
        sizeForgetsEdges();
        sizeRefusedChangesNothing();
        edgeNewOrNot();
        edgeRefusedChangesNothing();
        hasOfEveryPair();
        reachedBlocks();
        reachedFollowsChanges();
        dominatorOfBlocks();
        dominatesBlocks();
        headOfLoops();
        depthOfLoops();
        depthOfNoBlock();
        longestNest();
        widestFan();
        wrongBlocksEverywhere();
        objectsAreApart();
        System.out.println(wrong == 0 ? "all promises hold" : wrong + " answers are wrong");
        if (wrong != 0) {
            System.exit(1);
        }
    }

    private static void due(String what, boolean got, boolean want) {
        if (got != want) {
            wrong++;
            System.out.println(what + " answered " + got + ", due is " + want);
        }
    }

    private static void due(String what, int got, int want) {
        if (got != want) {
            wrong++;
            System.out.println(what + " answered " + got + ", due is " + want);
        }
    }

    private static FlowShape shape(int n, int... ends) {
        FlowShape x = new FlowShape();
        due("size(" + n + ")", x.size(n), true);
        for (int i = 0; i + 1 < ends.length; i += 2) {
            due("edge(" + ends[i] + ", " + ends[i + 1] + ", true)", x.edge(ends[i], ends[i + 1], true), true);
        }
        return x;
    }

    private static void dueDominators(String what, FlowShape x, int... want) {
        for (int b = 0; b < want.length; b++) {
            due(what + ": dominator(" + b + ")", x.dominator(b), want[b]);
        }
    }

    private static void dueDepths(String what, FlowShape x, int... want) {
        for (int b = 0; b < want.length; b++) {
            due(what + ": depth(" + b + ")", x.depth(b), want[b]);
        }
    }

    private static void dueHeads(String what, FlowShape x, int... want) {
        for (int b = 0; b < want.length; b++) {
            due(what + ": head(" + b + ")", x.head(b), want[b] == 1);
        }
    }

    private static void newObject() {
        FlowShape x = new FlowShape();
        due("P1 has(0, 0)", x.has(0, 0), false);
        due("P1 reached(0)", x.reached(0), true);
        due("P1 reached(1)", x.reached(1), false);
        due("P1 reachedOnes()", x.reachedOnes(), 1);
        due("P1 dominator(0)", x.dominator(0), -1);
        due("P1 dominates(0, 0)", x.dominates(0, 0), true);
        due("P1 head(0)", x.head(0), false);
        due("P1 depth(0)", x.depth(0), 0);
        due("P1 depth(1)", x.depth(1), -1);
        due("P1 edge(0, 1, true)", x.edge(0, 1, true), false);
        due("P1 edge(0, 0, true)", x.edge(0, 0, true), true);
    }

    private static void sizeLimits() {
        FlowShape x = new FlowShape();
        due("P2 size(0)", x.size(0), false);
        due("P2 size(-1)", x.size(-1), false);
        due("P2 size(201)", x.size(201), false);
        due("P2 size(MIN)", x.size(Integer.MIN_VALUE), false);
        due("P2 size(MAX)", x.size(Integer.MAX_VALUE), false);
        due("P2 depth(1) after refusals", x.depth(1), -1);
        for (int n : new int[] {1, 2, 63, 64, 65, 127, 128, 129, 191, 192, 193, 199, 200}) {
            due("P2 size(" + n + ")", x.size(n), true);
            due("P2 depth of the last of " + n, x.depth(n - 1), 0);
            due("P2 depth behind the last of " + n, x.depth(n), -1);
        }
    }

    private static void sizeForgetsEdges() {
        FlowShape x = shape(200, 0, 199, 199, 0, 0, 0, 0, 1, 1, 1);
        due("P2 depth(199)", x.depth(199), 1);
        due("P2 size(200) again", x.size(200), true);
        for (int[] e : new int[][] {{0, 199}, {199, 0}, {0, 0}, {0, 1}, {1, 1}}) {
            due("P2 edge kept by size", x.has(e[0], e[1]), false);
        }
        due("P2 reachedOnes()", x.reachedOnes(), 1);
        due("P2 reached(199)", x.reached(199), false);
        due("P2 dominator(199)", x.dominator(199), -1);
        due("P2 dominates(0, 199)", x.dominates(0, 199), false);
        due("P2 head(0)", x.head(0), false);
        dueDepths("P2", x, 0, 0);

        x = shape(10, 0, 9, 9, 5, 5, 9);
        due("P2 size(3)", x.size(3), true);
        due("P2 size(10)", x.size(10), true);
        due("P2 has(0, 9) after small and large", x.has(0, 9), false);
        due("P2 edge(0, 5, true)", x.edge(0, 5, true), true);
        due("P2 reached(9)", x.reached(9), false);
        due("P2 head(5)", x.head(5), false);
        due("P2 reachedOnes()", x.reachedOnes(), 2);
    }

    private static void sizeRefusedChangesNothing() {
        FlowShape x = shape(5, 0, 1, 1, 2, 2, 1);
        due("P2 size(0)", x.size(0), false);
        due("P2 size(201)", x.size(201), false);
        due("P2 has(1, 2)", x.has(1, 2), true);
        due("P2 reachedOnes()", x.reachedOnes(), 3);
        due("P2 depth(4)", x.depth(4), 0);
        due("P2 depth(5)", x.depth(5), -1);
        due("P2 depth(2)", x.depth(2), 1);
    }

    private static void edgeNewOrNot() {
        FlowShape x = shape(3);
        due("P3 none to none", x.edge(1, 2, false), false);
        due("P3 none to one", x.edge(1, 2, true), true);
        due("P3 one to one", x.edge(1, 2, true), false);
        due("P4 has(1, 2)", x.has(1, 2), true);
        due("P4 has(2, 1)", x.has(2, 1), false);
        due("P3 the other way", x.edge(2, 1, true), true);
        due("P3 one to none", x.edge(1, 2, false), true);
        due("P3 none to none again", x.edge(1, 2, false), false);
        due("P4 has(1, 2) after", x.has(1, 2), false);
        due("P4 has(2, 1) after", x.has(2, 1), true);
        due("P3 to itself", x.edge(2, 2, true), true);
        due("P3 to itself again", x.edge(2, 2, true), false);
        due("P4 has(2, 2)", x.has(2, 2), true);
        due("P3 none to itself", x.edge(2, 2, false), true);
        due("P4 has(2, 2) after", x.has(2, 2), false);
    }

    private static void edgeRefusedChangesNothing() {
        FlowShape x = shape(3, 0, 1);
        for (boolean is : new boolean[] {true, false}) {
            due("P3 edge(3, 0)", x.edge(3, 0, is), false);
            due("P3 edge(0, 3)", x.edge(0, 3, is), false);
            due("P3 edge(3, 3)", x.edge(3, 3, is), false);
            due("P3 edge(-1, 0)", x.edge(-1, 0, is), false);
            due("P3 edge(0, -1)", x.edge(0, -1, is), false);
        }
        due("P3 has(0, 3)", x.has(0, 3), false);
        due("P3 reachedOnes()", x.reachedOnes(), 2);
        due("P3 has(0, 1)", x.has(0, 1), true);
        due("P3 size(4)", x.size(4), true);
        due("P3 has(0, 3) with 4", x.has(0, 3), false);
        due("P3 edge(0, 3) with 4", x.edge(0, 3, true), true);
    }

    private static void hasOfEveryPair() {
        int[] marks = {0, 1, 62, 63, 64, 65, 127, 128, 191, 192, 198, 199};
        for (int a : marks) {
            FlowShape x = shape(200);
            for (int b : marks) {
                due("P4 has before", x.has(a, b), false);
                due("P3 edge(" + a + ", " + b + ")", x.edge(a, b, true), true);
                for (int c : marks) {
                    due("P4 has(" + a + ", " + c + ") after " + b, x.has(a, c), c <= b);
                }
            }
            for (int c : marks) {
                due("P4 has(" + c + ", " + a + ")", x.has(c, a), c == a);
            }
        }
    }

    private static void reachedBlocks() {
        FlowShape x = shape(7, 0, 2, 2, 4, 4, 2, 5, 6, 6, 5, 5, 2, 1, 0);
        boolean[] want = {true, false, true, false, true, false, false};
        for (int b = 0; b < 7; b++) {
            due("P5 reached(" + b + ")", x.reached(b), want[b]);
        }
        due("P5 reached(7)", x.reached(7), false);
        due("P5 reached(-1)", x.reached(-1), false);
        due("P6 reachedOnes()", x.reachedOnes(), 3);
    }

    private static void reachedFollowsChanges() {
        FlowShape x = shape(4, 0, 1, 1, 2, 2, 3);
        due("P6 whole chain", x.reachedOnes(), 4);
        due("P3 cut", x.edge(1, 2, false), true);
        due("P6 cut chain", x.reachedOnes(), 2);
        due("P5 reached(3) cut", x.reached(3), false);
        due("P7 dominator(3) cut", x.dominator(3), -1);
        due("P8 dominates(2, 3) cut", x.dominates(2, 3), false);
        due("P3 by another way", x.edge(0, 3, true), true);
        due("P6 with another way", x.reachedOnes(), 3);
        due("P7 dominator(3)", x.dominator(3), 0);
        due("P3 joined again", x.edge(1, 2, true), true);
        due("P6 joined again", x.reachedOnes(), 4);
        due("P7 dominator(3) still", x.dominator(3), 0);
        due("P3 other way gone", x.edge(0, 3, false), true);
        due("P7 dominator(3) again", x.dominator(3), 2);
    }

    private static void dominatorOfBlocks() {
        dueDominators("P7 diamond", shape(4, 0, 1, 0, 2, 1, 3, 2, 3), -1, 0, 0, 0, -1);
        dueDominators("P7 chain down", shape(4, 0, 3, 3, 2, 2, 1), -1, 2, 3, 0);
        dueDominators("P7 edge back to 0", shape(3, 0, 1, 1, 2, 2, 0), -1, 0, 1);
        dueDominators("P7 unreached source", shape(4, 0, 1, 1, 2, 3, 2), -1, 0, 1, -1);
        dueDominators("P7 two-headed circle", shape(4, 0, 1, 0, 2, 1, 2, 2, 1, 2, 3), -1, 0, 0, 2);
        // A ladder that no order of the blocks settles in one round.
        dueDominators("P7 ladder", shape(6, 0, 1, 0, 2, 1, 5, 2, 3, 2, 4, 3, 4, 4, 3, 3, 5, 5, 4), -1, 0, 0, 0, 0, 0);
        dueDominators("P7 nested diamonds", shape(8, 0, 1, 1, 2, 1, 3, 2, 4, 3, 4, 4, 5, 4, 6, 5, 7, 6, 7),
            -1, 0, 1, 1, 1, 4, 4, 4);
        FlowShape x = shape(3, 0, 1);
        due("P7 dominator(-1)", x.dominator(-1), -1);
        due("P7 dominator(3)", x.dominator(3), -1);
        due("P7 dominator(2)", x.dominator(2), -1);
    }

    private static void dominatesBlocks() {
        FlowShape x = shape(6, 0, 1, 1, 2, 1, 3, 2, 4, 3, 4, 5, 4);
        int[][] want = {
            {1, 1, 1, 1, 1, 0},
            {0, 1, 1, 1, 1, 0},
            {0, 0, 1, 0, 0, 0},
            {0, 0, 0, 1, 0, 0},
            {0, 0, 0, 0, 1, 0},
            {0, 0, 0, 0, 0, 0}
        };
        for (int a = 0; a < 6; a++) {
            for (int b = 0; b < 6; b++) {
                due("P8 dominates(" + a + ", " + b + ")", x.dominates(a, b), want[a][b] == 1);
            }
        }
        due("P8 dominates(6, 6)", x.dominates(6, 6), false);
        due("P8 dominates(0, 6)", x.dominates(0, 6), false);
        due("P8 dominates(-1, 0)", x.dominates(-1, 0), false);
        due("P8 dominates(0, -1)", x.dominates(0, -1), false);
    }

    private static void headOfLoops() {
        dueHeads("P9 one loop", shape(4, 0, 1, 1, 2, 2, 1, 2, 3), 0, 1, 0, 0, 0);
        dueHeads("P9 to itself", shape(3, 0, 1, 1, 1, 2, 2), 0, 1, 0);
        dueHeads("P9 block 0", shape(2, 0, 1, 1, 0), 1, 0);
        dueHeads("P9 two-headed circle", shape(3, 0, 1, 0, 2, 1, 2, 2, 1), 0, 0, 0);
        dueHeads("P9 edge from an unreached block", shape(3, 0, 1, 2, 1, 2, 2), 0, 0, 0);
        dueHeads("P9 unreached circle", shape(4, 0, 1, 2, 3, 3, 2, 2, 1), 0, 0, 0, 0);
        FlowShape x = shape(3, 0, 1, 1, 2, 2, 1);
        due("P9 head(-1)", x.head(-1), false);
        due("P9 head(3)", x.head(3), false);
        due("P9 head(1)", x.head(1), true);
        due("P3 a second way in", x.edge(0, 2, true), true);
        due("P9 head(1) with a second way in", x.head(1), false);
    }

    private static void depthOfLoops() {
        dueDepths("P10 no loop", shape(3, 0, 1, 1, 2), 0, 0, 0, -1);
        dueDepths("P10 one loop", shape(5, 0, 1, 1, 2, 2, 3, 3, 1, 2, 4), 0, 1, 1, 1, 0);
        dueDepths("P10 two edges to one head", shape(4, 0, 1, 1, 2, 2, 1, 2, 3, 3, 1), 0, 1, 1, 1);
        dueDepths("P10 nested", shape(5, 0, 1, 1, 2, 2, 3, 3, 2, 3, 4, 4, 1), 0, 1, 2, 2, 1);
        dueDepths("P10 side by side", shape(5, 0, 1, 1, 2, 2, 1, 1, 3, 3, 4, 4, 3), 0, 1, 1, 1, 1);
        dueDepths("P10 to itself in a loop", shape(3, 0, 1, 1, 1, 1, 2, 2, 0), 1, 2, 1);
        dueDepths("P10 to itself and by another", shape(4, 0, 1, 1, 1, 1, 2, 2, 1, 2, 3), 0, 1, 1, 0);
        dueDepths("P10 two-headed circle in a loop", shape(5, 0, 1, 1, 2, 1, 3, 2, 3, 3, 2, 3, 1, 0, 4), 0, 1, 1, 1, 0);
        // Block 3 has an edge to the head 1, which doesn't dominate it, so that 4 on the way is in no loop.
        dueDepths("P10 edge to a head from one not dominated", shape(5, 0, 1, 1, 2, 2, 1, 0, 3, 1, 4, 4, 3, 3, 1),
            0, 1, 1, 0, 0);
        dueDepths("P10 unreached block into a loop", shape(4, 0, 1, 1, 2, 2, 1, 3, 2, 3, 3), 0, 1, 1, 0);
    }

    private static void depthOfNoBlock() {
        FlowShape x = shape(2, 0, 1, 1, 0);
        due("P10 depth(2)", x.depth(2), -1);
        due("P10 depth(-1)", x.depth(-1), -1);
        due("P10 depth(1)", x.depth(1), 1);
        due("P3 cut", x.edge(1, 0, false), true);
        due("P10 depth(1) cut", x.depth(1), 0);
    }

    private static void longestNest() {
        FlowShape x = shape(200);
        for (int b = 0; b < 199; b++) {
            due("chain", x.edge(b, b + 1, true), true);
        }
        for (int b = 0; b < 200; b++) {
            due("back", x.edge(199, b, true), true);
        }
        due("P6 longest nest", x.reachedOnes(), 200);
        for (int b : new int[] {0, 1, 63, 64, 127, 128, 191, 192, 198, 199}) {
            due("P7 nest dominator(" + b + ")", x.dominator(b), b - 1);
            due("P8 nest dominates(" + b + ", 199)", x.dominates(b, 199), true);
            due("P8 nest dominates(199, " + b + ")", x.dominates(199, b), b == 199);
            due("P9 nest head(" + b + ")", x.head(b), true);
            due("P10 nest depth(" + b + ")", x.depth(b), b + 1);
        }
    }

    private static void widestFan() {
        FlowShape x = shape(200);
        for (int b = 1; b < 199; b++) {
            due("fan out", x.edge(0, b, true), true);
            due("fan in", x.edge(b, 199, true), true);
        }
        due("P6 widest fan", x.reachedOnes(), 200);
        due("P7 fan dominator(199)", x.dominator(199), 0);
        due("P10 fan depth(199)", x.depth(199), 0);
        due("fan back", x.edge(199, 0, true), true);
        for (int b : new int[] {0, 1, 64, 128, 192, 198, 199}) {
            due("P10 fan depth(" + b + ")", x.depth(b), 1);
            due("P9 fan head(" + b + ")", x.head(b), b == 0);
        }
    }

    private static void wrongBlocksEverywhere() {
        FlowShape x = shape(200, 0, 199, 199, 0);
        for (int b : NEVER_BLOCKS) {
            due("P3 edge(" + b + ", 0)", x.edge(b, 0, true), false);
            due("P3 edge(0, " + b + ")", x.edge(0, b, true), false);
            due("P3 edge(" + b + ", " + b + ", false)", x.edge(b, b, false), false);
            due("P4 has(" + b + ", 0)", x.has(b, 0), false);
            due("P4 has(0, " + b + ")", x.has(0, b), false);
            due("P5 reached(" + b + ")", x.reached(b), false);
            due("P7 dominator(" + b + ")", x.dominator(b), -1);
            due("P8 dominates(" + b + ", 0)", x.dominates(b, 0), false);
            due("P8 dominates(0, " + b + ")", x.dominates(0, b), false);
            due("P9 head(" + b + ")", x.head(b), false);
            due("P10 depth(" + b + ")", x.depth(b), -1);
        }
        due("P6 reachedOnes() after wrong blocks", x.reachedOnes(), 2);
    }

    private static void objectsAreApart() {
        FlowShape x = shape(3, 0, 1, 1, 0);
        FlowShape y = shape(2, 0, 1);
        due("P9 x.head(0)", x.head(0), true);
        due("P9 y.head(0)", y.head(0), false);
        due("P10 x.depth(2)", x.depth(2), 0);
        due("P10 y.depth(2)", y.depth(2), -1);
    }
}
