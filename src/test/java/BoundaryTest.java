import java.util.function.UnaryOperator;

/**
 * Each sentence of the document that names a boundary case, in the document's order, with a test of
 * its own: too small, too large, empty, full, a wrap-around, a refused call. A wrong answer is
 * printed with the sentence that it breaks.
 */
public final class BoundaryTest {
    private static final int MOST_CALLS = 512;
    private static final int[] TOO_SMALL = {-1, -2, -63, -64, -65, -199, -200, -256, Integer.MIN_VALUE + 1, Integer.MIN_VALUE};
    // Some are a right number and 256, 65536 or 2^30 more: cut to fewer bits they would pass.
    private static final int[] TOO_LARGE = {
        201, 202, 255, 256, 257, 456, 65536, 65537, 1 << 30, (1 << 30) + 1, Integer.MAX_VALUE - 1, Integer.MAX_VALUE
    };
    // The least and the greatest, and those around the ends of words of 64 bits.
    private static final int[] SIZES = {1, 2, 3, 63, 64, 65, 127, 128, 129, 191, 192, 193, 199, 200};
    private static final int[] BLOCKS = {0, 1, 2, 62, 63, 64, 126, 127, 128, 190, 191, 192, 198, 199};

    private static int wrong = 0;
    private static int sentences = 0;
    private static String sentence = "";

    public static void main(String[] args) {
        whatItIs();
        terms();
        promisesOfEdges();
        promisesOfShape();
        System.out.println(wrong == 0 ? "all " + sentences + " sentences hold" : wrong + " answers are wrong");
        if (wrong != 0) {
            System.exit(1);
        }
    }

    private static void whatItIs() {
        holds("An object is used for at most 512 calls after it has been made", BoundaryTest::lastCall);
        holds("what later calls answer is free", BoundaryTest::laterCallsEnd);
    }

    private static void terms() {
        holds("BLOCKS are 0 .. n - 1", BoundaryTest::firstAndLastBlock);
        holds("n from 1 to 200", BoundaryTest::leastAndMostBlocks);
        holds("between two of them there is an EDGE or not", BoundaryTest::emptyAndFull);
        holds("(from one to itself too)", BoundaryTest::edgeToItself);
        holds("A block is REACHED by edges from 0", BoundaryTest::reachedFromFirst);
        holds("b DOMINATES c, both reached", BoundaryTest::dominatesReachedAlone);
        holds("if all ways from 0 to c have b", BoundaryTest::allWaysHaveIt);
        holds("The DOMINATOR of c, which is not 0, is that one, not c, which all other dominators of c dominate",
            BoundaryTest::nearestDominator);
        holds("A LOOP HEAD is reached", BoundaryTest::headIsReached);
        holds("and has an edge from a reached block", BoundaryTest::headFromReached);
        holds("that it dominates", BoundaryTest::headDominates);
        holds("the LOOP of a head h has h", BoundaryTest::loopHasHead);
        holds("and all reached blocks", BoundaryTest::loopHasReachedAlone);
        holds("from which, without going through h", BoundaryTest::notThroughHead);
        holds("a block can be reached", BoundaryTest::fromFarInLoop);
        holds("(or which is one)", BoundaryTest::lastOfLoop);
        holds("that h dominates and that has an edge to h", BoundaryTest::lastIsDominated);
        holds("A block's DEPTH is the number of heads in whose loops it is", BoundaryTest::leastAndMostDepth);
        holds("A call that is refused changes nothing.", BoundaryTest::refusedChangesNothing);
    }

    private static void promisesOfEdges() {
        holds("P1: One block", BoundaryTest::newHasOneBlock);
        holds("P1: no edges", BoundaryTest::newHasNoEdges);
        holds("P2: n blocks", BoundaryTest::sizeSetsBlocks);
        holds("P2: no edges: true", BoundaryTest::sizeTakesEdges);
        holds("P2: false if n is not 1 .. 200", BoundaryTest::sizeTooSmallOrLarge);
        holds("P3: From a to b there is an edge, or none", BoundaryTest::edgeOfOnePair);
        holds("P3: from now on", BoundaryTest::edgeStays);
        holds("P3: whether that is new", BoundaryTest::edgeIsNew);
        holds("P3: false too if there is no such block", BoundaryTest::edgeOfNoBlock);
        holds("P4: Whether there is an edge from a to b", BoundaryTest::hasOfNoBlock);
    }

    private static void promisesOfShape() {
        holds("P5: Whether a block is reached", BoundaryTest::reachedLeastAndMost);
        holds("P5: false if there is none", BoundaryTest::reachedOfNoBlock);
        holds("P6: How many are", BoundaryTest::reachedOnesLeastAndMost);
        holds("P7: -1 for 0", BoundaryTest::dominatorOfFirst);
        holds("P7: one that is not reached", BoundaryTest::dominatorOfUnreached);
        holds("P7: or if there is none", BoundaryTest::dominatorOfNoBlock);
        holds("P8: Whether a dominates b", BoundaryTest::dominatesOfNoBlock);
        holds("P9: Whether a block is a loop head", BoundaryTest::headOfNoBlock);
        holds("P10: Its depth", BoundaryTest::depthOfUnreached);
        holds("P10: -1 if there is no such block", BoundaryTest::depthOfNoBlock);
    }

    /** What the machine throws in one test is a fault of that sentence, and the others are still run. */
    private static void holds(String words, Runnable test) {
        sentences++;
        sentence = words;
        try {
            test.run();
        } catch (RuntimeException thrown) {
            fault("threw " + thrown);
        }
    }

    private static void fault(String what) {
        wrong++;
        if (wrong <= 100) {
            System.out.println("\"" + sentence + "\": " + what);
        }
    }

    /** An object whose every call is told with the answer that is due. */
    private static final class Flow {
        private final FlowShape shape = new FlowShape();
        private int calls = 0;

        private Flow answer(String call, Object got, Object want) {
            calls++;
            if (calls > MOST_CALLS) {
                fault("the test itself makes more than " + MOST_CALLS + " calls");
            } else if (!got.equals(want)) {
                fault("call " + calls + ", " + call + ", answered " + got + ", due is " + want);
            }
            return this;
        }

        Flow size(int n, boolean want) {
            return answer("size(" + n + ")", shape.size(n), want);
        }

        Flow edge(int a, int b, boolean is, boolean want) {
            return answer("edge(" + a + ", " + b + ", " + is + ")", shape.edge(a, b, is), want);
        }

        Flow has(int a, int b, boolean want) {
            return answer("has(" + a + ", " + b + ")", shape.has(a, b), want);
        }

        Flow reached(int b, boolean want) {
            return answer("reached(" + b + ")", shape.reached(b), want);
        }

        Flow reachedOnes(int want) {
            return answer("reachedOnes()", shape.reachedOnes(), want);
        }

        Flow dominator(int b, int want) {
            return answer("dominator(" + b + ")", shape.dominator(b), want);
        }

        Flow dominates(int a, int b, boolean want) {
            return answer("dominates(" + a + ", " + b + ")", shape.dominates(a, b), want);
        }

        Flow head(int b, boolean want) {
            return answer("head(" + b + ")", shape.head(b), want);
        }

        Flow depth(int b, int want) {
            return answer("depth(" + b + ")", shape.depth(b), want);
        }

        Flow noEdges(int n) {
            for (int a = 0; a < n; a++) {
                for (int b = 0; b < n; b++) {
                    has(a, b, false);
                }
            }
            return this;
        }

        Flow reachedAre(boolean... want) {
            for (int b = 0; b < want.length; b++) {
                reached(b, want[b]);
            }
            return this;
        }

        Flow dominatorsAre(int... want) {
            for (int b = 0; b < want.length; b++) {
                dominator(b, want[b]);
            }
            return this;
        }

        Flow headsAre(boolean... want) {
            for (int b = 0; b < want.length; b++) {
                head(b, want[b]);
            }
            return this;
        }

        Flow depthsAre(int... want) {
            for (int b = 0; b < want.length; b++) {
                depth(b, want[b]);
            }
            return this;
        }

        void isUsedUp() {
            if (calls != MOST_CALLS) {
                fault("the test itself ends with call " + calls);
            }
        }

        /** No question finds a block b. */
        Flow noBlock(int b) {
            has(b, 0, false).has(0, b, false).has(b, b, false);
            reached(b, false).dominator(b, -1).head(b, false).depth(b, -1);
            return dominates(b, 0, false).dominates(0, b, false).dominates(b, b, false);
        }
    }

    private static Flow flow(int n, int... ends) {
        Flow x = new Flow().size(n, true);
        for (int i = 0; i + 1 < ends.length; i += 2) {
            x.edge(ends[i], ends[i + 1], true, true);
        }
        return x;
    }

    /** Blocks 0 to n - 1, each with an edge to the next. */
    private static Flow chain(int n) {
        Flow x = flow(n);
        for (int b = 0; b + 1 < n; b++) {
            x.edge(b, b + 1, true, true);
        }
        return x;
    }

    private static void lastCall() {
        Flow edges = flow(200);
        for (int e = 0; edges.calls < MOST_CALLS - 1; e++) {
            edges.edge(e % 198, e % 198 + 1 + e / 198, true, true);
        }
        edges.reachedOnes(200).isUsedUp();

        Flow turns = flow(200, 0, 199);
        for (boolean is = true; turns.calls < MOST_CALLS; is = !is) {
            turns.edge(199, 0, is, true).depth(199, is ? 1 : 0);
        }
        turns.isUsedUp();

        Flow refusals = new Flow();
        while (refusals.calls < MOST_CALLS - 2) {
            refusals.size(0, false);
        }
        refusals.edge(0, 0, true, true).depth(0, 1).isUsedUp();

        Flow sizes = new Flow();
        while (sizes.calls < MOST_CALLS - 2) {
            sizes.size(1 + sizes.calls % 200, true);
        }
        int last = (MOST_CALLS - 3) % 200;
        sizes.depth(last, 0).depth(last + 1, -1).isUsedUp();
    }

    /** That no call throws or fails to end is a rule of the language, for later calls too. */
    private static void laterCallsEnd() {
        FlowShape x = new FlowShape();
        for (int n : new int[] {200, 1, 64, 200}) {
            x.size(n);
            for (int e = 0; e < n * n; e++) {
                x.edge(e / n, e % n, e % 7 != 0);
            }
            askWithAll(x, BLOCKS);
            askWithAll(x, TOO_SMALL);
            askWithAll(x, TOO_LARGE);
        }
    }

    private static void askWithAll(FlowShape x, int[] blocks) {
        for (int a : blocks) {
            for (int b : blocks) {
                x.edge(a, b, !x.has(a, b));
                x.edge(a, 0, x.dominates(a, b));
                x.edge(0, b, x.dominates(0, b));
            }
            x.edge(0, 1, x.reached(a) && x.head(a) || x.dominator(a) == x.depth(a) || x.reachedOnes() > 9);
        }
    }

    private static void firstAndLastBlock() {
        for (int n : SIZES) {
            Flow x = flow(n).noBlock(-1).noBlock(n).noBlock(n + 1).depth(0, 0).depth(n - 1, 0);
            x.edge(-1, 0, true, false).edge(0, -1, true, false).edge(n, 0, true, false).edge(0, n, true, false);
            x.edge(n - 1, n - 1, true, true).has(n - 1, n - 1, true).noBlock(-1).noBlock(n);
        }
    }

    private static void leastAndMostBlocks() {
        new Flow().size(1, true).depth(0, 0).depth(1, -1);
        new Flow().size(200, true).depth(199, 0).depth(200, -1);
        new Flow().size(0, false).depth(0, 0).depth(1, -1);
        new Flow().size(201, false).depth(0, 0).depth(1, -1);
    }

    private static void emptyAndFull() {
        flow(22).noEdges(22).reachedOnes(1).dominator(21, -1).head(0, false).depth(21, 0);
        // 22 blocks are the most of which 512 calls can make every edge that there can be.
        Flow x = flow(22);
        for (int e = 0; e < 22 * 22; e++) {
            x.edge(e / 22, e % 22, true, true);
        }
        x.reachedOnes(22).dominator(0, -1).dominator(1, 0).dominator(21, 0).dominates(0, 21, true);
        x.dominates(20, 21, false).dominates(21, 21, true).head(0, true).head(21, true);
        x.depth(0, 1).depth(1, 2).depth(21, 2).depth(22, -1).has(21, 21, true).has(21, 22, false);
    }

    private static void edgeToItself() {
        new Flow().edge(0, 0, true, true).has(0, 0, true);
        for (int b : BLOCKS) {
            Flow x = flow(200).has(b, b, false).edge(b, b, true, true).has(b, b, true).edge(b, b, true, false);
            x.edge(b, b, false, true).has(b, b, false).edge(b, b, false, false);
        }
    }

    private static void reachedFromFirst() {
        new Flow().reached(0, true);
        flow(3, 1, 0, 2, 0, 1, 2).reachedAre(true, false, false);
        flow(4, 1, 2, 2, 3, 3, 1, 1, 1).reachedAre(true, false, false, false);
        chain(200).reached(199, true).edge(198, 199, false, true).reached(199, false).reached(198, true);
        Flow down = flow(200, 0, 199);
        for (int b = 199; b > 1; b--) {
            down.edge(b, b - 1, true, true);
        }
        down.reached(1, true).reachedOnes(200).edge(0, 199, false, true).reached(1, false).reachedOnes(1);
    }

    private static void dominatesReachedAlone() {
        Flow x = flow(5, 0, 1, 2, 3, 3, 3, 3, 1);
        x.dominates(2, 2, false).dominates(3, 3, false).dominates(2, 3, false).dominates(4, 4, false);
        x.dominates(0, 2, false).dominates(0, 3, false).dominates(0, 4, false).dominates(1, 4, false);
        x.dominates(2, 0, false).dominates(2, 1, false).dominates(3, 1, false).dominates(4, 0, false);
        x.dominates(0, 1, true).dominates(1, 1, true).dominates(0, 0, true);
    }

    private static void allWaysHaveIt() {
        new Flow().dominates(0, 0, true);
        Flow x = flow(5, 0, 1, 1, 2, 2, 3, 3, 1, 3, 4, 4, 0);
        for (int b = 0; b < 5; b++) {
            for (int c = 0; c < 5; c++) {
                x.dominates(b, c, b <= c);
            }
        }
        x.edge(0, 4, true, true).dominates(3, 4, false).dominates(0, 4, true).dominates(4, 4, true).dominates(2, 3, true);
        for (int b : BLOCKS) {
            if (b > 2) {
                flow(200, 0, 1, 1, 2, 0, b, b, 2).dominates(1, 2, false).dominates(b, 2, false).dominates(0, 2, true);
                flow(200, 0, 1, 1, b, 0, 2, 2, b).dominates(1, b, false).dominates(2, b, false).dominates(b, b, true);
            }
        }
        Flow wide = flow(200);
        for (int b = 1; b < 199; b++) {
            wide.edge(0, b, true, true).edge(b, 199, true, true);
        }
        for (int b = 0; b < 200; b += 2) {
            wide.dominates(b, 199, b == 0);
        }
    }

    private static void nearestDominator() {
        Flow line = chain(200);
        for (int b = 0; b < 200; b++) {
            line.dominator(b, b - 1);
        }
        flow(2, 0, 1, 1, 1).dominatorsAre(-1, 0);
        flow(2, 0, 1, 1, 0, 0, 0).dominatorsAre(-1, 0);
        // Up and down, so that the nearest dominator is neither the least nor the greatest.
        flow(6, 0, 3, 3, 5, 5, 1, 1, 4, 4, 2).dominatorsAre(-1, 5, 4, 0, 1, 3);
        Flow x = flow(200, 0, 128, 128, 64, 64, 192, 192, 63, 63, 127, 127, 199, 63, 199);
        x.dominator(128, 0).dominator(64, 128).dominator(192, 64).dominator(63, 192).dominator(127, 63).dominator(199, 63);
    }

    private static void headIsReached() {
        Flow x = flow(4, 1, 1, 2, 3, 3, 2).headsAre(false, false, false, false);
        x.edge(0, 3, true, true).headsAre(false, false, false, true).edge(0, 3, false, true).headsAre(false, false, false, false);
    }

    private static void headFromReached() {
        flow(3, 0, 1, 2, 1, 2, 0).headsAre(false, false, false);
        Flow x = flow(4, 0, 1, 1, 2, 3, 1, 3, 2, 3, 3).headsAre(false, false, false, false);
        x.edge(2, 3, true, true).headsAre(false, true, true, true);
    }

    private static void headDominates() {
        new Flow().head(0, false).edge(0, 0, true, true).head(0, true);
        flow(3, 0, 1, 0, 2, 1, 2, 2, 1).headsAre(false, false, false);
        flow(3, 0, 1, 1, 2).headsAre(false, false, false).edge(2, 2, true, true).headsAre(false, false, true);
        flow(3, 0, 1, 1, 2, 2, 0).headsAre(true, false, false).edge(2, 1, true, true).headsAre(true, true, false);
        for (int b : BLOCKS) {
            if (b > 1) {
                flow(200, 0, 1, 1, b, b, 1).head(0, false).head(1, true).head(b, false);
                flow(200, 0, b, b, 1, 1, b).head(0, false).head(1, false).head(b, true);
            }
        }
    }

    private static void loopHasHead() {
        new Flow().edge(0, 0, true, true).depth(0, 1);
        flow(3, 0, 1, 1, 1, 1, 2).depthsAre(0, 1, 0);
        flow(3, 0, 1, 1, 2, 2, 1).depthsAre(0, 1, 1);
    }

    private static void loopHasReachedAlone() {
        Flow x = flow(5, 0, 1, 1, 2, 2, 1, 3, 2, 3, 1, 4, 4, 4, 3).depthsAre(0, 1, 1, 0, 0);
        x.edge(1, 3, true, true).depthsAre(0, 1, 1, 1, 0);
    }

    private static void notThroughHead() {
        // From 0 and 3 the block with an edge to the head is reached through the head alone.
        flow(4, 0, 3, 3, 1, 1, 2, 2, 1).depthsAre(0, 1, 1, 0);
        // A head that is its own last block: those before it come to it, but that is through it.
        flow(4, 0, 1, 1, 1, 1, 2, 2, 3).depthsAre(0, 1, 0, 0);
        // 4 comes to the loop of 2 by way of 2 alone.
        flow(5, 0, 1, 1, 2, 2, 3, 3, 2, 3, 4, 4, 1).depthsAre(0, 1, 2, 2, 1);
    }

    private static void fromFarInLoop() {
        Flow ring = chain(200).edge(199, 0, true, true);
        for (int b = 0; b < 200; b++) {
            ring.depth(b, 1);
        }
        flow(5, 0, 1, 1, 2, 2, 1, 2, 3, 1, 4).depthsAre(0, 1, 1, 0, 0);
    }

    private static void lastOfLoop() {
        flow(2, 0, 1, 1, 0).depthsAre(1, 1);
        flow(4, 0, 1, 1, 2, 1, 3, 2, 1, 3, 1).depthsAre(0, 1, 1, 1);
        Flow wide = flow(200);
        for (int b = 1; b < 200; b++) {
            wide.edge(0, b, true, true).edge(b, 0, true, true);
        }
        for (int b : BLOCKS) {
            wide.depth(b, 1);
        }
    }

    private static void lastIsDominated() {
        flow(5, 0, 1, 1, 2, 2, 1, 0, 3, 3, 1, 1, 4, 4, 3).depthsAre(0, 1, 1, 0, 0);
        flow(4, 0, 1, 0, 2, 1, 2, 2, 1, 2, 3, 3, 2).headsAre(false, false, true, false).depthsAre(0, 0, 1, 1);
    }

    private static void leastAndMostDepth() {
        new Flow().depth(0, 0);
        flow(4, 0, 1, 1, 2, 2, 1, 1, 3, 3, 1).depthsAre(0, 1, 1, 1);
        Flow nest = chain(200);
        for (int b = 0; b < 200; b++) {
            nest.edge(199, b, true, true);
        }
        for (int b = 0; b < 200; b += 2) {
            nest.depth(b, b + 1);
        }
        nest.depth(199, 200).edge(199, 199, false, true).depth(199, 199).edge(199, 0, false, true).depth(199, 198).depth(0, 0);
    }

    private static void refusedChangesNothing() {
        refusedSize(0);
        for (int n : TOO_SMALL) {
            refusedSize(n);
            refusedEdges(n);
        }
        for (int n : TOO_LARGE) {
            refusedSize(n);
            refusedEdges(n);
        }
        for (int b : new int[] {5, 6, 63, 64, 65, 69, 127, 128, 199, 200}) {
            refusedEdges(b);
        }
        // What is not new and what only asks leaves all as it is, too.
        askedAndUnasked(x -> x.edge(1, 2, true, false));
        askedAndUnasked(x -> x.edge(2, 4, false, false));
        askedAndUnasked(x -> x.noBlock(5).noBlock(-1).noBlock(200));
    }

    private static void refusedSize(int n) {
        askedAndUnasked(x -> x.size(n, false));
    }

    private static void refusedEdges(int b) {
        askedAndUnasked(x -> x.edge(b, 0, true, false).edge(b, 0, false, false).edge(b, 2, true, false));
        askedAndUnasked(x -> x.edge(0, b, true, false).edge(1, b, false, false).edge(2, b, true, false));
        askedAndUnasked(x -> x.edge(b, b, true, false).edge(b, b, false, false));
    }

    /** The refused calls come once before anything was asked, and once after. */
    private static void askedAndUnasked(UnaryOperator<Flow> refused) {
        stateOfFive(refused.apply(fiveBlocks()));
        stateOfFive(refused.apply(stateOfFive(fiveBlocks())));
        Flow x = refused.apply(fiveBlocks()).edge(3, 4, true, true);
        x.reachedOnes(5).dominator(4, 3).headsAre(false, true, true, false, false).depthsAre(0, 1, 2, 2, 2, -1);
    }

    private static Flow fiveBlocks() {
        return flow(5, 0, 1, 1, 2, 2, 1, 2, 3, 4, 2);
    }

    private static Flow stateOfFive(Flow x) {
        for (int a = 0; a < 5; a++) {
            for (int b = 0; b < 5; b++) {
                x.has(a, b, a < 3 && b == a + 1 || a == 2 && b == 1 || a == 4 && b == 2);
                x.dominates(a, b, a <= b && b < 4);
            }
        }
        x.reachedAre(true, true, true, true, false, false).reachedOnes(4).dominatorsAre(-1, 0, 1, 2, -1, -1);
        return x.headsAre(false, true, false, false, false, false).depthsAre(0, 1, 1, 0, 0, -1, -1);
    }

    private static void newHasOneBlock() {
        new Flow().depth(0, 0).depth(1, -1).depth(-1, -1);
        new Flow().edge(0, 1, true, false).edge(1, 0, true, false).edge(1, 1, true, false).edge(0, 0, true, true);
        new Flow().reachedOnes(1).reached(0, true).reached(1, false);
        new Flow().dominates(0, 0, true).dominates(0, 1, false).dominates(1, 1, false).dominator(0, -1);
        new Flow().noBlock(1).noBlock(-1).noBlock(199).noBlock(200);
    }

    private static void newHasNoEdges() {
        new Flow().has(0, 0, false);
        new Flow().edge(0, 0, false, false);
        new Flow().head(0, false).depth(0, 0);
    }

    private static void sizeSetsBlocks() {
        Flow x = new Flow();
        for (int n : new int[] {200, 1, 199, 2, 65, 64, 63, 200, 128, 127, 5, 5}) {
            x.size(n, true).depth(n - 1, 0).depth(n, -1).noBlock(n);
            x.edge(n - 1, 0, true, true).edge(n, 0, true, false).edge(0, n, true, false).reached(n - 1, n == 1);
        }
    }

    private static void sizeTakesEdges() {
        new Flow().edge(0, 0, true, true).depth(0, 1).size(1, true).has(0, 0, false).head(0, false).depth(0, 0);
        for (int n : SIZES) {
            if (n > 1) {
                sizeTakesEdgesOf(n);
            }
        }
        Flow less = flow(20, 0, 19, 19, 2, 2, 19, 0, 1, 1, 0).depth(2, 1).depth(19, 1).size(3, true);
        less.noEdges(3).reachedOnes(1).depthsAre(0, 0, 0, -1).size(20, true).noEdges(20);
        Flow more = flow(3, 0, 1, 1, 2, 2, 0).depth(2, 1).size(20, true).noEdges(20).reachedOnes(1).depthsAre(0, 0, 0, 0);
        more.edge(0, 1, true, true).reachedOnes(2).reached(2, false).head(0, false);
        Flow first = flow(200, 0, 199, 199, 0).size(1, true).noEdges(1).reachedOnes(1).head(0, false).depth(0, 0);
        first.size(200, true).has(0, 199, false).has(199, 0, false).reached(199, false).reachedOnes(1);
    }

    private static void sizeTakesEdgesOf(int n) {
        int end = n - 1;
        Flow x = flow(n, 0, 0, end, end, 0, end, end, 0).depth(end, 2).size(n, true);
        x.reachedOnes(1).dominator(end, -1).dominates(0, end, false).head(0, false).depth(end, 0);
        x.has(0, 0, false).has(end, end, false).has(0, end, false).has(end, 0, false).edge(0, end, false, false);
    }

    private static void sizeTooSmallOrLarge() {
        Flow each = new Flow();
        for (int n = -20; n <= 220; n++) {
            each.size(n, n >= 1 && n <= 200);
        }
        for (int n : TOO_SMALL) {
            new Flow().size(n, false).depth(0, 0).depth(1, -1);
        }
        for (int n : TOO_LARGE) {
            new Flow().size(n, false).depth(0, 0).depth(1, -1);
        }
        new Flow().size(1, true).size(200, true).size(201, false).size(200, true).size(0, false).size(1, true);
    }

    private static void edgeOfOnePair() {
        for (int a : BLOCKS) {
            for (int b : BLOCKS) {
                Flow x = flow(200).edge(a, b, true, true);
                for (int c = 0; c < 200; c++) {
                    x.has(a, c, c == b).has(c, b, c == a);
                }
                x.has(b, a, a == b).edge(a, b, false, true).has(a, b, false);
            }
        }
    }

    private static void edgeStays() {
        Flow x = flow(200, 0, 1);
        for (int b = 2; b < 200; b++) {
            x.edge(0, b, true, true).edge(0, b, false, true);
        }
        x.has(0, 1, true).reached(1, true).reachedOnes(2).edge(0, 1, false, true);
        for (int b = 2; b < 50; b++) {
            x.edge(b, 1, true, true);
        }
        x.has(0, 1, false).reached(1, false).edge(0, 1, false, false);
    }

    private static void edgeIsNew() {
        for (int n : SIZES) {
            int end = n - 1;
            Flow x = flow(n).edge(0, end, false, false).edge(0, end, true, true).edge(0, end, true, false);
            x.edge(0, end, false, true).edge(0, end, false, false).edge(0, end, true, true).size(n, true);
            x.edge(0, end, false, false).edge(0, end, true, true);
        }
    }

    private static void edgeOfNoBlock() {
        for (int n : SIZES) {
            noEdgeAt(n, n);
            noEdgeAt(n, n + 1);
        }
        for (int b : TOO_SMALL) {
            noEdgeAt(1, b);
            noEdgeAt(200, b);
        }
        for (int b : TOO_LARGE) {
            noEdgeAt(1, b);
            noEdgeAt(200, b);
        }
        // A block that there was is none after a smaller size.
        Flow x = flow(200, 0, 199).size(100, true).edge(0, 199, true, false).edge(199, 0, true, false);
        x.edge(0, 199, false, false).edge(0, 100, true, false).edge(0, 99, true, true).reachedOnes(2);
    }

    private static void noEdgeAt(int n, int b) {
        for (boolean is : new boolean[] {true, false}) {
            Flow x = flow(n).edge(b, 0, is, false).edge(0, b, is, false).edge(b, b, is, false);
            x.edge(b, n - 1, is, false).edge(n - 1, b, is, false).reachedOnes(1).depth(n, -1).head(0, false);
        }
    }

    private static void hasOfNoBlock() {
        // Were the pairs one row, the end of one block's pairs would be next to the start of another's.
        Flow x = flow(4, 1, 0, 0, 3, 3, 3).has(0, 4, false).has(1, -1, false).has(2, -4, false);
        x.has(4, -1, false).has(3, 4, false).has(4, 0, false);
        x = flow(200, 1, 0, 0, 199, 199, 199, 198, 199).has(0, 200, false).has(1, -1, false);
        x.has(199, 200, false).has(200, -1, false).has(199, -1, false);
        for (int b : TOO_SMALL) {
            noHasAt(b);
        }
        for (int b : TOO_LARGE) {
            noHasAt(b);
        }
        flow(200, 0, 150, 150, 150).size(100, true).has(0, 150, false).has(150, 150, false);
        flow(4, 3, 2).has(3, 2, true).has(2, 3, false);
    }

    private static void noHasAt(int b) {
        Flow x = flow(200, 0, 0, 0, 199, 199, 0, 199, 199, 1, 0, 1, 1);
        x.has(b, b, false).has(b, 0, false).has(0, b, false);
        x.has(b, 199, false).has(199, b, false).has(b, 1, false).has(1, b, false);
    }

    private static void reachedLeastAndMost() {
        new Flow().reached(0, true).edge(0, 0, true, true).reached(0, true);
        for (int n : SIZES) {
            flow(n).reached(0, true).reached(n - 1, n == 1);
            chain(n).reached(0, true).reached(n / 2, true).reached(n - 1, true);
        }
    }

    private static void reachedOfNoBlock() {
        for (int n : SIZES) {
            chain(n).reached(n, false).reached(n + 1, false).reached(-1, false);
        }
        for (int b : TOO_SMALL) {
            new Flow().reached(b, false);
            chain(200).reached(b, false);
        }
        for (int b : TOO_LARGE) {
            new Flow().reached(b, false);
            chain(200).reached(b, false);
        }
        chain(200).reached(150, true).size(150, true).reached(150, false).reached(149, false).reached(0, true);
    }

    private static void reachedOnesLeastAndMost() {
        new Flow().reachedOnes(1).edge(0, 0, true, true).reachedOnes(1);
        for (int n : SIZES) {
            flow(n).reachedOnes(1);
            chain(n).reachedOnes(n);
            Flow wide = flow(n);
            for (int b = 1; b < n; b++) {
                wide.edge(0, b, true, true).reachedOnes(b + 1);
            }
        }
        Flow x = flow(5, 1, 2, 2, 1, 3, 0, 4, 4).reachedOnes(1);
        x.edge(0, 2, true, true).reachedOnes(3).edge(0, 2, false, true).reachedOnes(1);
    }

    private static void dominatorOfFirst() {
        new Flow().dominator(0, -1).edge(0, 0, true, true).dominator(0, -1);
        flow(3, 0, 1, 1, 0, 2, 0).dominator(0, -1);
        chain(200).edge(199, 0, true, true).dominator(0, -1);
    }

    private static void dominatorOfUnreached() {
        flow(5, 0, 1, 2, 3, 3, 4, 4, 4, 2, 1).dominatorsAre(-1, 0, -1, -1, -1);
        flow(2).dominator(1, -1).edge(1, 1, true, true).dominator(1, -1).edge(1, 0, true, true).dominator(1, -1);
        chain(200).dominator(199, 198).edge(0, 1, false, true).dominator(199, -1).dominator(1, -1).dominator(2, -1);
    }

    private static void dominatorOfNoBlock() {
        for (int n : SIZES) {
            chain(n).dominator(n, -1).dominator(n + 1, -1).dominator(-1, -1);
        }
        for (int b : TOO_SMALL) {
            chain(200).dominator(b, -1);
        }
        for (int b : TOO_LARGE) {
            chain(200).dominator(b, -1);
        }
        chain(200).dominator(150, 149).size(150, true).dominator(150, -1).dominator(149, -1);
    }

    private static void dominatesOfNoBlock() {
        for (int n : SIZES) {
            Flow x = chain(n).dominates(0, n - 1, true).dominates(n - 1, n - 1, true).dominates(n - 1, 0, n == 1);
            noDominatesAt(x, n - 1, n);
            noDominatesAt(x, n - 1, -1);
        }
        for (int b : TOO_SMALL) {
            noDominatesAt(chain(200), 199, b);
        }
        for (int b : TOO_LARGE) {
            noDominatesAt(chain(200), 199, b);
        }
        noDominatesAt(chain(200).dominates(150, 199, true).size(150, true), 149, 150);
    }

    private static void noDominatesAt(Flow x, int end, int b) {
        x.dominates(b, b, false).dominates(0, b, false).dominates(b, 0, false).dominates(end, b, false).dominates(b, end, false);
    }

    private static void headOfNoBlock() {
        for (int n : SIZES) {
            chain(n).head(n - 1, false).edge(n - 1, n - 1, true, true).head(n - 1, true).head(n, false).head(-1, false);
        }
        for (int b : TOO_SMALL) {
            flow(200, 0, 0, 0, 1, 1, 1, 0, 199, 199, 199).head(b, false);
        }
        for (int b : TOO_LARGE) {
            flow(200, 0, 0, 0, 1, 1, 1, 0, 199, 199, 199).head(b, false);
        }
        flow(200, 0, 150, 150, 150).head(150, true).size(150, true).head(150, false).head(149, false).head(0, false);
    }

    private static void depthOfUnreached() {
        flow(3, 1, 1, 2, 1, 1, 2).depthsAre(0, 0, 0).edge(0, 1, true, true).depthsAre(0, 1, 1);
        flow(200, 0, 199, 199, 199, 198, 199, 198, 198).depth(199, 1).depth(198, 0).depth(0, 0);
    }

    private static void depthOfNoBlock() {
        for (int n : SIZES) {
            chain(n).edge(n - 1, 0, true, true).depth(n - 1, 1).depth(n, -1).depth(n + 1, -1).depth(-1, -1);
        }
        for (int b : TOO_SMALL) {
            chain(200).edge(199, 0, true, true).depth(b, -1);
        }
        for (int b : TOO_LARGE) {
            chain(200).edge(199, 0, true, true).depth(b, -1);
        }
        flow(200, 0, 150, 150, 150).depth(150, 1).size(150, true).depth(150, -1).depth(149, 0);
    }
}
