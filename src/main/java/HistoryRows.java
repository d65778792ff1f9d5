import java.util.Arrays;

/**
 * Old heights of a ledger. Of each height only the rows that its block changed are held; what a
 * leaf held at a height is read from the last row at or below that height.
 */
public final class HistoryRows {
    public static final int NONE = -1, UNKNOWN = -101, OUTSIDE = -102, STATE = -103, PRUNED = -104, ROOM = -105;

    /** Long answers may be any value of 32 bits, so their refusals lie this far below. */
    private static final long LESS = 4000000000L;

    private static final int LEAVES = 32;
    private static final int LEVELS = 5;
    private static final int MOST_HEIGHT = 200;
    private static final int MOST_WRITES = 60;
    private static final int MOST_CALL = 999;
    private static final int MOST_ROWS = 400;
    private static final int MOST_ARCHIVES = 8;
    private static final int MOST_STEP = 100;

    /** Stands in the place of an archive's number for a row or a height that is in none. */
    private static final int KEPT = -1;
    /** Stands in the place of an archive's number for a height whose archive is forgotten. */
    private static final int FORGOTTEN = MOST_ARCHIVES;

    private final Rows rows = new Rows();
    private final Heights heights = new Heights();
    private final Block block = new Block();
    private final Tree tree = new Tree();
    private final int[] laid = new int[LEVELS];
    private final int[] oneState = new int[LEAVES];
    private final int[] otherState = new int[LEAVES];
    private int step;
    private int archives;

    public HistoryRows() {
        begin();
    }

    public int write(int call, int leaf, int v) {
        if (!isLeaf(leaf)) return UNKNOWN;
        if (call < 0 || call > MOST_CALL) return OUTSIDE;
        if (call < block.lastCall) return STATE;
        if (block.writes >= MOST_WRITES) return ROOM;
        block.put(call, leaf, v);
        return block.writes;
    }

    public int seal() {
        if (heights.top >= MOST_HEIGHT) return ROOM;
        if (rows.size + block.changes() > MOST_ROWS) return ROOM;
        for (int leaf = 0; leaf < LEAVES; leaf++) {
            if (block.changesLeaf(leaf)) {
                rows.add(heights.top + 1, leaf, block.behind[leaf], block.calls[leaf]);
            }
        }
        heights.rise(tree.grow(block.behind));
        block.startFrom(block.behind);
        return heights.top;
    }

    public int drop() {
        int had = block.writes;
        block.startFrom(block.ahead);
        return had;
    }

    public long at(int leaf, int height) {
        if (!isLeaf(leaf) || !isHeight(height)) return wide(UNKNOWN);
        if (heights.isGone(height)) return wide(PRUNED);
        int k = rows.lastOf(leaf, height);
        return k == NONE ? 0 : rows.values[k];
    }

    public long now(int leaf) {
        if (!isLeaf(leaf)) return wide(UNKNOWN);
        return block.behind[leaf];
    }

    public long digest(int height) {
        if (!isHeight(height)) return wide(UNKNOWN);
        return heights.digests[height];
    }

    public int blame(int leaf, int height, int what) {
        if (!isLeaf(leaf) || !isHeight(height)) return UNKNOWN;
        if (what < 0 || what > 1) return OUTSIDE;
        if (heights.isGone(height)) return PRUNED;
        int k = rows.lastOf(leaf, height);
        if (k == NONE) return NONE;
        return what == 0 ? rows.calls[k] : rows.heights[k];
    }

    public int first(int leaf, int v) {
        if (!isLeaf(leaf)) return UNKNOWN;
        int held = 0;
        int k = 0;
        for (int height = 0; height <= heights.top; height++) {
            for (; k < rows.size && rows.heights[k] <= height; k++) {
                if (rows.isOf(k, leaf)) held = rows.values[k];
            }
            if (held == v && !heights.isGone(height)) return height;
        }
        return NONE;
    }

    public int differs(int a, int b) {
        int refusal = refusalOfTwo(a, b);
        if (refusal != 0) return refusal;
        loadTwo(a, b);
        int unlike = 0;
        for (int leaf = 0; leaf < LEAVES; leaf++) {
            if (oneState[leaf] != otherState[leaf]) unlike++;
        }
        return unlike;
    }

    public int difference(int a, int b, int k) {
        int refusal = refusalOfTwo(a, b);
        if (refusal != 0) return refusal;
        loadTwo(a, b);
        int unlike = 0;
        for (int leaf = 0; leaf < LEAVES; leaf++) {
            if (oneState[leaf] == otherState[leaf]) continue;
            if (unlike == k) return leaf;
            unlike++;
        }
        return NONE;
    }

    public int rule(int step) {
        if (step < 0 || step > MOST_STEP) return OUTSIDE;
        int was = this.step;
        this.step = step;
        return was;
    }

    public int prune(int before) {
        if (!isHeight(before)) return UNKNOWN;
        int going = heights.countPrunable(before, step);
        if (going == 0) return 0;
        if (archives >= MOST_ARCHIVES) return ROOM;
        heights.moveTo(archives, before, step);
        rows.moveUnneededTo(archives, heights);
        archives++;
        return going;
    }

    public int pruned(int height) {
        if (!isHeight(height)) return UNKNOWN;
        return heights.isGone(height) ? 1 : 0;
    }

    public int bring() {
        if (archives == 0) return STATE;
        archives--;
        heights.relabel(archives, KEPT);
        return rows.takeFrom(archives);
    }

    public int forget() {
        for (int i = 0; i < archives; i++) {
            heights.relabel(i, FORGOTTEN);
        }
        archives = 0;
        return rows.removeArchived();
    }

    public int archive(int i, int what) {
        if (i < 0 || i >= archives) return UNKNOWN;
        if (what < 0 || what > 1) return OUTSIDE;
        return what == 0 ? rows.countIn(i) : heights.countIn(i);
    }

    public long replay(int from, int to) {
        int refusal = refusalOfReplay(from, to);
        if (refusal != 0) return wide(refusal);
        rows.load(from, oneState);
        rows.redo(from, to, oneState);
        return tree.grow(oneState);
    }

    public int replayed(int from, int to) {
        int refusal = refusalOfReplay(from, to);
        if (refusal != 0) return refusal;
        return rows.redo(from, to, oneState);
    }

    public long proof(int leaf, int height, int i) {
        if (!isLeaf(leaf) || !isHeight(height)) return wide(UNKNOWN);
        if (i < 0 || i >= LEVELS) return wide(OUTSIDE);
        if (heights.isGone(height)) return wide(PRUNED);
        rows.load(height, oneState);
        tree.grow(oneState);
        return tree.beside(leaf, i);
    }

    public int lay(int i, int v) {
        if (i < 0 || i >= LEVELS) return OUTSIDE;
        int was = laid[i];
        laid[i] = v;
        return was;
    }

    public int proves(int leaf, int v, int height) {
        if (!isLeaf(leaf) || !isHeight(height)) return UNKNOWN;
        return Tree.climb(leaf, v, laid) == heights.digests[height] ? 1 : 0;
    }

    public int back(int height) {
        if (!isHeight(height)) return UNKNOWN;
        if (archives > 0) return STATE;
        if (heights.isGone(height)) return PRUNED;
        int went = rows.removeAbove(height);
        heights.fallTo(height);
        rows.load(height, oneState);
        block.startFrom(oneState);
        return went;
    }

    public int row(int leaf, int k, int what) {
        if (!isLeaf(leaf)) return UNKNOWN;
        if (what < 0 || what > 1) return OUTSIDE;
        int found = rows.find(leaf, k);
        if (found == NONE) return NONE;
        return what == 0 ? rows.heights[found] : rows.calls[found];
    }

    public int count(int what) {
        switch (what) {
            case 0: return heights.top;
            case 1: return block.writes;
            case 2: return rows.countIn(KEPT);
            case 3: return rows.size - rows.countIn(KEPT);
            case 4: return archives;
            case 5: return heights.top + 1 - heights.countIn(KEPT);
            default: return OUTSIDE;
        }
    }

    public int clear() {
        int was = heights.top;
        begin();
        return was;
    }

    private void begin() {
        step = 0;
        archives = 0;
        rows.size = 0;
        Arrays.fill(laid, 0);
        Arrays.fill(oneState, 0);
        block.startFrom(oneState);
        heights.top = NONE;
        heights.rise(tree.grow(oneState));
    }

    private static boolean isLeaf(int leaf) {
        return leaf >= 0 && leaf < LEAVES;
    }

    private boolean isHeight(int height) {
        return height >= 0 && height <= heights.top;
    }

    private static long wide(int refusal) {
        return refusal - LESS;
    }

    /** The refusal that two heights meet, or 0. */
    private int refusalOfTwo(int a, int b) {
        if (!isHeight(a) || !isHeight(b)) return UNKNOWN;
        if (heights.isGone(a) || heights.isGone(b)) return PRUNED;
        return 0;
    }

    /** The refusal that a replay meets, or 0: the order of the two is looked at before pruning. */
    private int refusalOfReplay(int from, int to) {
        if (isHeight(from) && isHeight(to) && to < from) return OUTSIDE;
        return refusalOfTwo(from, to);
    }

    private void loadTwo(int a, int b) {
        rows.load(a, oneState);
        rows.load(b, otherState);
    }

    /** The open block. Its writes are held only as what they come to, leaf by leaf. */
    private static final class Block {
        final int[] ahead = new int[LEAVES];
        final int[] behind = new int[LEAVES];
        final int[] calls = new int[LEAVES];
        int writes;
        int lastCall;

        void startFrom(int[] state) {
            for (int leaf = 0; leaf < LEAVES; leaf++) {
                ahead[leaf] = state[leaf];
                behind[leaf] = state[leaf];
            }
            writes = 0;
            lastCall = 0;
        }

        void put(int call, int leaf, int value) {
            behind[leaf] = value;
            calls[leaf] = call;
            lastCall = call;
            writes++;
        }

        boolean changesLeaf(int leaf) {
            return ahead[leaf] != behind[leaf];
        }

        int changes() {
            int changed = 0;
            for (int leaf = 0; leaf < LEAVES; leaf++) {
                if (changesLeaf(leaf)) changed++;
            }
            return changed;
        }
    }

    /** What is known of each height besides rows: its digest, and which archive pruned it. */
    private static final class Heights {
        final int[] digests = new int[MOST_HEIGHT + 1];
        final int[] places = new int[MOST_HEIGHT + 1];
        int top;

        void rise(int digest) {
            if (top >= MOST_HEIGHT) return;
            top++;
            digests[top] = digest;
            places[top] = KEPT;
        }

        /** What is above needs no wiping: a height is written anew when it is reached again. */
        void fallTo(int height) {
            top = height;
        }

        boolean isGone(int height) {
            return places[height] != KEPT;
        }

        boolean isPrunable(int height, int step) {
            boolean spared = step > 0 && height % step == 0;
            return !spared && !isGone(height);
        }

        int countPrunable(int before, int step) {
            int found = 0;
            for (int height = 0; height < before; height++) {
                if (isPrunable(height, step)) found++;
            }
            return found;
        }

        void moveTo(int archive, int before, int step) {
            for (int height = 0; height < before; height++) {
                if (isPrunable(height, step)) places[height] = archive;
            }
        }

        void relabel(int archive, int place) {
            for (int height = 0; height <= top; height++) {
                if (places[height] == archive) places[height] = place;
            }
        }

        int countIn(int place) {
            int found = 0;
            for (int height = 0; height <= top; height++) {
                if (places[height] == place) found++;
            }
            return found;
        }

        boolean keepsAny(int from, int below) {
            for (int height = from; height < below; height++) {
                if (!isGone(height)) return true;
            }
            return false;
        }
    }

    /**
     * All rows, by heights. Archived ones keep their place among the others and only bear their
     * archive's number, so that an archive comes back whole by losing that number.
     */
    private static final class Rows {
        final int[] heights = new int[MOST_ROWS];
        final int[] leaves = new int[MOST_ROWS];
        final int[] values = new int[MOST_ROWS];
        final int[] calls = new int[MOST_ROWS];
        final int[] places = new int[MOST_ROWS];
        final int[] nextHeights = new int[LEAVES];
        int size;

        void add(int height, int leaf, int value, int call) {
            if (size >= MOST_ROWS) return;
            heights[size] = height;
            leaves[size] = leaf;
            values[size] = value;
            calls[size] = call;
            places[size] = KEPT;
            size++;
        }

        boolean isOf(int k, int leaf) {
            return leaves[k] == leaf && places[k] == KEPT;
        }

        int lastOf(int leaf, int height) {
            for (int k = size - 1; k >= 0; k--) {
                if (heights[k] <= height && isOf(k, leaf)) return k;
            }
            return NONE;
        }

        int find(int leaf, int number) {
            int seen = 0;
            for (int k = 0; k < size; k++) {
                if (!isOf(k, leaf)) continue;
                if (seen == number) return k;
                seen++;
            }
            return NONE;
        }

        void load(int height, int[] state) {
            Arrays.fill(state, 0);
            redo(0, height, state);
        }

        /** Does the rows above one height and not above another: how many. No row is of height 0. */
        int redo(int above, int to, int[] state) {
            int done = 0;
            for (int k = 0; k < size && heights[k] <= to; k++) {
                if (heights[k] <= above || places[k] != KEPT) continue;
                state[leaves[k]] = values[k];
                done++;
            }
            return done;
        }

        /** From the newest row down, so that the next row of a leaf is known when one is met. */
        void moveUnneededTo(int archive, Heights kept) {
            Arrays.fill(nextHeights, kept.top + 1);
            for (int k = size - 1; k >= 0; k--) {
                if (places[k] != KEPT) continue;
                int leaf = leaves[k];
                if (!kept.keepsAny(heights[k], nextHeights[leaf])) places[k] = archive;
                nextHeights[leaf] = heights[k];
            }
        }

        int takeFrom(int archive) {
            int taken = 0;
            for (int k = 0; k < size; k++) {
                if (places[k] != archive) continue;
                places[k] = KEPT;
                taken++;
            }
            return taken;
        }

        int removeArchived() {
            int left = 0;
            for (int k = 0; k < size; k++) {
                if (places[k] != KEPT) continue;
                copyRow(k, left);
                left++;
            }
            int went = size - left;
            size = left;
            return went;
        }

        int removeAbove(int height) {
            int left = 0;
            while (left < size && heights[left] <= height) left++;
            int went = size - left;
            size = left;
            return went;
        }

        int countIn(int place) {
            int found = 0;
            for (int k = 0; k < size; k++) {
                if (places[k] == place) found++;
            }
            return found;
        }

        private void copyRow(int from, int to) {
            heights[to] = heights[from];
            leaves[to] = leaves[from];
            values[to] = values[from];
            calls[to] = calls[from];
            places[to] = places[from];
        }
    }

    /** The digests of one state: node 1 is the root, nodes 2n and 2n + 1 are below node n. */
    private static final class Tree {
        final int[] nodes = new int[2 * LEAVES];

        int grow(int[] state) {
            for (int leaf = 0; leaf < LEAVES; leaf++) {
                nodes[LEAVES + leaf] = ofLeaf(leaf, state[leaf]);
            }
            for (int n = LEAVES - 1; n >= 1; n--) {
                nodes[n] = join(nodes[2 * n], nodes[2 * n + 1]);
            }
            return nodes[1];
        }

        int beside(int leaf, int level) {
            return nodes[((LEAVES + leaf) >> level) ^ 1];
        }

        static int climb(int leaf, int value, int[] beside) {
            int digest = ofLeaf(leaf, value);
            for (int level = 0; level < LEVELS; level++) {
                boolean onTheLeft = ((leaf >> level) & 1) == 0;
                digest = onTheLeft ? join(digest, beside[level]) : join(beside[level], digest);
            }
            return digest;
        }

        static int ofLeaf(int leaf, int value) {
            return 31 * value + leaf;
        }

        static int join(int l, int r) {
            int x = 31 * l + r;
            return (x ^ (x >>> 15)) * 0x2C1B3C6D;
        }
    }
}
