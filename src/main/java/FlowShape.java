import java.util.Arrays;

/**
 * The shape of flow: of blocks with edges from one to another what is reached
 * from the first one, what dominates, which are loop heads, and how deep in
 * loops each lies.
 */
public final class FlowShape {
    private static final int MOST_BLOCKS = 200;
    private static final int NO_BLOCK = -1;

    // How far the shape of the present edges is known; each step needs the one before.
    private static final int KNOWN_NOTHING = 0;
    private static final int KNOWN_REACHED = 1;
    private static final int KNOWN_DOMINATORS = 2;
    private static final int KNOWN_DEPTHS = 3;

    private final BlockSets targets = new BlockSets();
    private final BlockSets sources = new BlockSets();
    private final BlockSets dominators = new BlockSets();
    private final boolean[] isReached = new boolean[MOST_BLOCKS];
    private final int[] order = new int[MOST_BLOCKS];
    private final int[] nextTarget = new int[MOST_BLOCKS];
    private final int[] waiting = new int[MOST_BLOCKS];
    private final int[] lastLoop = new int[MOST_BLOCKS];
    private final int[] depths = new int[MOST_BLOCKS];
    private int blocks = 1;
    private int orderStart = 0;
    private int known = KNOWN_NOTHING;

    public FlowShape() {
    }

    public boolean size(int n) {
        if (n < 1 || n > MOST_BLOCKS) {
            return false;
        }
        blocks = n;
        targets.clear();
        sources.clear();
        known = KNOWN_NOTHING;
        return true;
    }

    public boolean edge(int a, int b, boolean is) {
        if (!isBlock(a) || !isBlock(b) || targets.holds(a, b) == is) {
            return false;
        }
        targets.put(a, b, is);
        sources.put(b, a, is);
        known = KNOWN_NOTHING;
        return true;
    }

    public boolean has(int a, int b) {
        return isBlock(a) && isBlock(b) && targets.holds(a, b);
    }

    public boolean reached(int b) {
        if (!isBlock(b)) {
            return false;
        }
        findReached();
        return isReached[b];
    }

    public int reachedOnes() {
        findReached();
        return blocks - orderStart;
    }

    public int dominator(int b) {
        if (!isBlock(b)) {
            return NO_BLOCK;
        }
        findDominators();
        // The dominators of a block stand in a chain, so that the nearest has one fewer of them.
        int due = dominators.count(b) - 1;
        for (int d = dominators.next(b, 0); d < blocks; d = dominators.next(b, d + 1)) {
            if (dominators.count(d) == due) {
                return d;
            }
        }
        return NO_BLOCK;
    }

    public boolean dominates(int a, int b) {
        if (!isBlock(a) || !isBlock(b)) {
            return false;
        }
        findDominators();
        return dominators.holds(b, a);
    }

    public boolean head(int b) {
        if (!isBlock(b)) {
            return false;
        }
        findDominators();
        return isHead(b);
    }

    public int depth(int b) {
        if (!isBlock(b)) {
            return -1;
        }
        findDepths();
        return depths[b];
    }

    private boolean isBlock(int b) {
        return b >= 0 && b < blocks;
    }

    /**
     * Walks from block 0 in depth and lays the reached blocks into order, from
     * orderStart to blocks - 1, each when all behind it is done: but for edges
     * that go back, a block then stands after all its sources, and the search
     * for dominators needs few rounds.
     */
    private void findReached() {
        if (known >= KNOWN_REACHED) {
            return;
        }
        for (int b = 0; b < blocks; b++) {
            isReached[b] = false;
            nextTarget[b] = 0;
        }
        isReached[0] = true;
        waiting[0] = 0;
        int top = 1;
        orderStart = blocks;
        // Each step lays a block on the waiting pile or takes one off, and each block once.
        for (int step = 0; step < 2 * blocks && top > 0 && orderStart > 0; step++) {
            int from = waiting[top - 1];
            int to = takeUnreachedTarget(from);
            if (to < blocks && top < blocks) {
                isReached[to] = true;
                waiting[top] = to;
                top++;
            } else {
                top--;
                orderStart--;
                order[orderStart] = from;
            }
        }
        known = KNOWN_REACHED;
    }

    /** The next target of a block that is not reached yet; MOST_BLOCKS if no more is left. */
    private int takeUnreachedTarget(int from) {
        for (int to = targets.next(from, nextTarget[from]); to < blocks; to = targets.next(from, to + 1)) {
            if (!isReached[to]) {
                nextTarget[from] = to + 1;
                return to;
            }
        }
        nextTarget[from] = blocks;
        return MOST_BLOCKS;
    }

    /**
     * Starts with all blocks as dominators of each reached one, but for block 0,
     * and strikes out, until nothing changes, those that don't dominate one of
     * its sources. Blocks that are not reached have no dominators.
     */
    private void findDominators() {
        if (known >= KNOWN_DOMINATORS) {
            return;
        }
        findReached();
        startDominators();
        boolean changed = true;
        // The first round leaves at most blocks * blocks; a later one that changes something strikes out some.
        for (int round = 0; round <= blocks * blocks && changed; round++) {
            changed = strikeOutDominators();
        }
        known = KNOWN_DOMINATORS;
    }

    private void startDominators() {
        dominators.clear();
        dominators.put(0, 0, true);
        // Block 0 is the first in the order: all others are reached through it.
        for (int i = orderStart + 1; i < blocks; i++) {
            dominators.fill(order[i]);
        }
    }

    private boolean strikeOutDominators() {
        boolean changed = false;
        for (int i = orderStart + 1; i < blocks; i++) {
            int b = order[i];
            for (int from = sources.next(b, 0); from < blocks; from = sources.next(b, from + 1)) {
                if (isReached[from] && dominators.keepOthersOf(b, from)) {
                    changed = true;
                }
            }
        }
        return changed;
    }

    /** Needs the dominators found. A source that b dominates is reached, and so is b then. */
    private boolean isHead(int b) {
        for (int from = sources.next(b, 0); from < blocks; from = sources.next(b, from + 1)) {
            if (dominators.holds(from, b)) {
                return true;
            }
        }
        return false;
    }

    private void findDepths() {
        if (known >= KNOWN_DEPTHS) {
            return;
        }
        findDominators();
        Arrays.fill(depths, 0);
        Arrays.fill(lastLoop, NO_BLOCK);
        for (int i = orderStart; i < blocks; i++) {
            if (isHead(order[i])) {
                countLoop(order[i]);
            }
        }
        known = KNOWN_DEPTHS;
    }

    /** Adds one to the depth of each block in the loop of a head. */
    private void countLoop(int head) {
        // The head is in its loop but never waits, so the walk back doesn't go through it.
        lastLoop[head] = head;
        depths[head]++;
        int end = 0;
        for (int from = sources.next(head, 0); from < blocks; from = sources.next(head, from + 1)) {
            if (dominators.holds(from, head)) {
                end = joinLoop(from, head, end);
            }
        }
        for (int i = 0; i < end && i < blocks; i++) {
            int b = waiting[i];
            for (int from = sources.next(b, 0); from < blocks; from = sources.next(b, from + 1)) {
                if (isReached[from]) {
                    end = joinLoop(from, head, end);
                }
            }
        }
    }

    /** Lets a block wait at end if it is new to the loop; answers the end that is then. */
    private int joinLoop(int b, int head, int end) {
        if (lastLoop[b] == head || end >= blocks) {
            return end;
        }
        lastLoop[b] = head;
        depths[b]++;
        waiting[end] = b;
        return end + 1;
    }

    /** For each block a set of blocks, as bits: a number for each pair would fill the room. */
    private static final class BlockSets {
        private static final int WORDS = 4;
        private static final int WORD_SHIFT = 6;

        private final long[] words = new long[MOST_BLOCKS * WORDS];

        void clear() {
            Arrays.fill(words, 0L);
        }

        /** Sets bits above the last block too: they go when a set is cut down to another. */
        void fill(int set) {
            Arrays.fill(words, set * WORDS, set * WORDS + WORDS, -1L);
        }

        boolean holds(int set, int b) {
            return (words[set * WORDS + (b >> WORD_SHIFT)] & bit(b)) != 0L;
        }

        void put(int set, int b, boolean is) {
            int at = set * WORDS + (b >> WORD_SHIFT);
            words[at] = is ? words[at] | bit(b) : words[at] & ~bit(b);
        }

        int count(int set) {
            int sum = 0;
            for (int w = 0; w < WORDS; w++) {
                sum += Long.bitCount(words[set * WORDS + w]);
            }
            return sum;
        }

        /** The first block of a set that is not below start; MOST_BLOCKS if there is none. */
        int next(int set, int start) {
            long mask = -1L << start;
            for (int w = start >> WORD_SHIFT; w < WORDS; w++) {
                long rest = words[set * WORDS + w] & mask;
                if (rest != 0L) {
                    long belowLowest = (rest & -rest) - 1L;
                    return (w << WORD_SHIFT) + Long.bitCount(belowLowest);
                }
                mask = -1L;
            }
            return MOST_BLOCKS;
        }

        /** Keeps in the set of b only b and what the set of other has too; whether that changed it. */
        boolean keepOthersOf(int b, int other) {
            boolean changed = false;
            for (int w = 0; w < WORDS; w++) {
                long own = b >> WORD_SHIFT == w ? bit(b) : 0L;
                long before = words[b * WORDS + w];
                long after = before & (words[other * WORDS + w] | own);
                words[b * WORDS + w] = after;
                changed = changed || after != before;
            }
            return changed;
        }

        private static long bit(int b) {
            // Java takes a shift's low six bits alone, which is the place in the word.
            return 1L << b;
        }
    }
}
