import java.util.Arrays;

/**
 * A sorted map in an array with gaps, under an index tree laid out so that
 * every search touches few blocks whatever a block's size is.
 *
 * <p>The index is not stored: what a node bears is read off the cells, so it
 * can never disagree with them.
 */
public final class GappedStore {
    public static final long NONE = -9223372036854775807L - 1L;
    public static final int BAD = -1;

    private static final int SEGMENT = 8;
    private static final int MOST_CELLS = 512;
    private static final int MOST_AT_ONCE = 64;
    private static final int LARGEST_BLOCK = 1024;
    /** The places of 6 nodes at most, and a segment's cells. */
    private static final int MOST_LOOKS = 6 + SEGMENT;

    /** A cell is empty when its key is NONE. */
    private final long[] keys;
    private final long[] values;
    /** The blocks of one call of touched, kept so that the call makes nothing. */
    private final int[] blocks;
    private final int leastLevels;
    private int levels;
    private int latestHeight;
    private long movedKeys;

    public GappedStore(int cells) {
        keys = new long[MOST_CELLS];
        Arrays.fill(keys, NONE);
        values = new long[MOST_CELLS];
        blocks = new int[MOST_LOOKS];
        leastLevels = cells == 64 ? 3 : cells == 32 ? 2 : 1;
        levels = leastLevels;
        latestHeight = BAD;
        movedKeys = 0L;
    }

    // ---- changing what is held

    public int put(long key, long v) {
        if (key == NONE) {
            return BAD;
        }
        int cell = cellOf(key);
        if (cell != BAD) {
            values[cell] = v;
            return 0;
        }
        return putNew(key, v) ? 1 : BAD;
    }

    public int fill(long from, long step, int n) {
        if (n < 0 || n > MOST_AT_ONCE) {
            return BAD;
        }
        int fresh = 0;
        for (int i = 0; i < n; i++) {
            int answer = put(from + i * step, i);
            if (answer == BAD) {
                return fresh;
            }
            fresh += answer;
        }
        return fresh;
    }

    public boolean remove(long key) {
        int cell = cellOf(key);
        if (cell == BAD) {
            return false;
        }
        takeOut(cell);
        return true;
    }

    public int drop(long from, int n) {
        if (n < 0 || n > MOST_AT_ONCE) {
            return BAD;
        }
        for (int gone = 0; gone < n; gone++) {
            int cell = cellNotBelow(from);
            if (cell == BAD) {
                return gone;
            }
            takeOut(cell);
        }
        return n;
    }

    // ---- asking for keys and values

    public boolean has(long key) {
        return cellOf(key) != BAD;
    }

    public long get(long key) {
        int cell = cellOf(key);
        return cell == BAD ? 0L : values[cell];
    }

    public long floor(long key) {
        for (int i = cells() - 1; i >= 0; i--) {
            if (keys[i] != NONE && keys[i] <= key) {
                return keys[i];
            }
        }
        return NONE;
    }

    public long ceiling(long key) {
        int cell = cellNotBelow(key);
        return cell == BAD ? NONE : keys[cell];
    }

    public long select(int k) {
        int before = 0;
        for (int i = 0; i < cells(); i++) {
            if (keys[i] != NONE) {
                if (before == k) {
                    return keys[i];
                }
                before++;
            }
        }
        return NONE;
    }

    public int count(long low, long high) {
        int found = 0;
        for (int i = 0; i < cells(); i++) {
            if (isHeldBetween(i, low, high)) {
                found++;
            }
        }
        return found;
    }

    public long sum(long low, long high) {
        long total = 0L;
        for (int i = 0; i < cells(); i++) {
            if (isHeldBetween(i, low, high)) {
                total += values[i];
            }
        }
        return total;
    }

    public int size() {
        return keysAmong(0, cells());
    }

    // ---- asking how they are held

    public int cells() {
        return windowCells(levels);
    }

    public long cellKey(int i) {
        return i < 0 || i >= cells() ? NONE : keys[i];
    }

    public int place(int k) {
        return k < 1 || k >= segments() ? BAD : placeInTree(k, levels);
    }

    public long borne(int place) {
        for (int node = 1; node < segments(); node++) {
            if (placeInTree(node, levels) == place) {
                return borneBy(node);
            }
        }
        return NONE;
    }

    public int touched(long key, int b) {
        if (b < 1 || b > LARGEST_BLOCK) {
            return BAD;
        }
        int segment = seek(key);
        int known = 0;
        // The nodes looked at are just those above the segment reached.
        for (int node = (segments() + segment) / 2; node >= 1; node /= 2) {
            known = noteBlock(placeInTree(node, levels) / b, known);
        }
        int firstAddress = segments() + segment * SEGMENT;
        for (int i = 0; i < SEGMENT; i++) {
            known = noteBlock((firstAddress + i) / b, known);
        }
        return known;
    }

    public int window() {
        return latestHeight;
    }

    public long moved() {
        return movedKeys;
    }

    // ---- the index

    private int segments() {
        return 1 << levels;
    }

    /** The segment that seeking the key reaches. */
    private int seek(long key) {
        int node = 1;
        for (int level = 0; level < levels; level++) {
            long bears = borneBy(node);
            // A node that bears nothing sends to the right even for NONE itself.
            boolean left = bears != NONE && bears >= key;
            node = left ? 2 * node : 2 * node + 1;
        }
        return node - segments();
    }

    private long borneBy(int node) {
        int below = levels - depthOf(node) - 1;
        int firstSegment = (2 * node << below) - segments();
        return greatestKey(firstSegment * SEGMENT, windowCells(below));
    }

    private long greatestKey(int first, int width) {
        for (int i = first + width - 1; i >= first; i--) {
            if (keys[i] != NONE) {
                return keys[i];
            }
        }
        return NONE;
    }

    private static int depthOf(int node) {
        int depth = 0;
        for (int above = node / 2; above >= 1; above /= 2) {
            depth++;
        }
        return depth;
    }

    private static int nodesOfTree(int height) {
        return (1 << height) - 1;
    }

    /** The place of a node in a tree whose root is node 1; each call inside has a lower tree. */
    private static int placeInTree(int node, int height) {
        if (height <= 1) {
            return 0;
        }
        int top = (height + 1) / 2;
        int bottom = height - top;
        int below = depthOf(node) - top;
        if (below < 0) {
            return placeInTree(node, top);
        }
        int bottomsBefore = (node >> below) - (1 << top);
        int nodeInBottom = (1 << below) + node % (1 << below);
        return nodesOfTree(top) + bottomsBefore * nodesOfTree(bottom)
                + placeInTree(nodeInBottom, bottom);
    }

    /** Notes a block unless it is among the known ones, and answers how many are known then. */
    private int noteBlock(int block, int known) {
        for (int i = 0; i < known; i++) {
            if (blocks[i] == block) {
                return known;
            }
        }
        blocks[known] = block;
        return known + 1;
    }

    // ---- finding cells

    /** The cell of the least key that is not less than this one, or BAD. */
    private int cellNotBelow(long key) {
        // Seeking always ends in the segment of that key, if there is one.
        int first = seek(key) * SEGMENT;
        for (int i = first; i < first + SEGMENT; i++) {
            if (keys[i] != NONE && keys[i] >= key) {
                return i;
            }
        }
        return BAD;
    }

    private int cellOf(long key) {
        int cell = cellNotBelow(key);
        return cell != BAD && keys[cell] == key ? cell : BAD;
    }

    private boolean isHeldBetween(int cell, long low, long high) {
        long key = keys[cell];
        return key != NONE && key >= low && key <= high;
    }

    private int keysAmong(int first, int width) {
        int found = 0;
        for (int i = first; i < first + width; i++) {
            if (keys[i] != NONE) {
                found++;
            }
        }
        return found;
    }

    // ---- windows

    private static int windowCells(int height) {
        return SEGMENT << height;
    }

    private static int firstCell(int segment, int height) {
        return (segment >> height) * windowCells(height);
    }

    private int keysInWindow(int segment, int height) {
        return keysAmong(firstCell(segment, height), windowCells(height));
    }

    private int mostKeys(int height) {
        return windowCells(height) * (4 * levels - height) / (4 * levels);
    }

    private int fewestKeys(int height) {
        int parts = 8 * levels;
        return (windowCells(height) * (levels + height) + parts - 1) / parts;
    }

    private int heightWithRoom(int segment) {
        for (int height = 0; height <= levels; height++) {
            if (keysInWindow(segment, height) + 1 <= mostKeys(height)) {
                return height;
            }
        }
        return BAD;
    }

    private int heightWithEnough(int segment) {
        for (int height = 0; height <= levels; height++) {
            if (keysInWindow(segment, height) >= fewestKeys(height)) {
                return height;
            }
        }
        return BAD;
    }

    // ---- spreading

    private boolean putNew(long key, long v) {
        int segment = seek(key);
        int height = heightWithRoom(segment);
        if (height == BAD) {
            if (cells() == MOST_CELLS) {
                return false;
            }
            levels++;
            height = levels;
        }
        int first = firstCell(segment, height);
        int packed = pack(first, windowCells(height));
        insertPacked(first, packed, key, v);
        spreadPacked(first, height, packed + 1);
        return true;
    }

    private void takeOut(int cell) {
        clear(cell);
        int segment = cell / SEGMENT;
        int height = heightWithEnough(segment);
        if (height != BAD) {
            int first = firstCell(segment, height);
            spreadPacked(first, height, pack(first, windowCells(height)));
        } else if (levels > leastLevels) {
            halve();
        }
    }

    private void halve() {
        // Packed before the upper half goes; fewer than a quarter of the cells are full here.
        int packed = pack(0, cells());
        levels--;
        spreadPacked(0, levels, packed);
    }

    /** Moves a window's keys to its first cells, and answers how many there are. */
    private int pack(int first, int width) {
        int next = first;
        for (int i = first; i < first + width; i++) {
            if (keys[i] != NONE) {
                shift(i, next);
                next++;
            }
        }
        return next - first;
    }

    private void insertPacked(int first, int packed, long key, long v) {
        int cell = first + packed;
        while (cell > first && keys[cell - 1] > key) {
            shift(cell - 1, cell);
            cell--;
        }
        keys[cell] = key;
        values[cell] = v;
    }

    /** Spreads packed keys, the last one first: no key goes to a lower cell, so none is run over. */
    private void spreadPacked(int first, int height, int packed) {
        for (int i = packed - 1; i >= 0; i--) {
            shift(first + i, first + i * windowCells(height) / packed);
        }
        latestHeight = height;
        movedKeys += packed;
    }

    private void shift(int from, int to) {
        if (from != to) {
            keys[to] = keys[from];
            values[to] = values[from];
            clear(from);
        }
    }

    private void clear(int cell) {
        keys[cell] = NONE;
        values[cell] = 0L;
    }
}
