import java.util.ArrayList;
import java.util.Arrays;
import java.util.List;

/**
 * The two limits of a window, U(h) and D(h), on both sides, for every number of levels and every
 * height. Each row leads a store to the very edge; that it is there is looked at before the call
 * that decides, so that what is due follows from the document's formulas alone.
 */
public final class LimitTest {
    private static final long NONE = Watched.NONE;

    /** U(h) = W (4 T - h) / (4 T), rounded down, for T = 1 .. 6 and h = 0 .. T, worked out by hand. */
    private static final int[][] MOST = {
        {8, 12},
        {8, 14, 24},
        {8, 14, 26, 48},
        {8, 15, 28, 52, 96},
        {8, 15, 28, 54, 102, 192},
        {8, 15, 29, 56, 106, 202, 384},
    };

    /** D(h) = W (T + h) / (8 T), rounded up, likewise. */
    private static final int[][] FEWEST = {
        {1, 4},
        {1, 3, 8},
        {1, 3, 7, 16},
        {1, 3, 6, 14, 32},
        {1, 3, 6, 13, 29, 64},
        {1, 3, 6, 12, 27, 59, 128},
    };

    /**
     * T, h, the cells wanted, how many keys 0, 1, .. are put, how many of the least are dropped, how
     * many keys -1, -2, .. are put then. One more key in the same direction makes just U(h) keys.
     */
    private static final int[][] JUST_ROOM = {
        {1, 0, 16, 7, 0, 0}, {1, 1, 16, 13, 2, 0},
        {2, 0, 32, 7, 0, 0}, {2, 1, 32, 13, 0, 0}, {2, 2, 32, 23, 0, 0},
        {3, 0, 64, 7, 0, 0}, {3, 1, 64, 13, 0, 0}, {3, 2, 16, 39, 0, 0}, {3, 3, 16, 0, 0, 47},
        {4, 0, 16, 53, 0, 0}, {4, 1, 16, 57, 0, 0}, {4, 2, 16, 22, 0, 53}, {4, 3, 16, 62, 0, 34},
        {4, 4, 16, 54, 0, 41},
        {5, 0, 16, 104, 0, 0}, {5, 1, 16, 108, 0, 0}, {5, 2, 16, 187, 0, 0}, {5, 3, 16, 144, 0, 0},
        {5, 4, 16, 192, 0, 0}, {5, 5, 16, 121, 0, 70},
        {6, 0, 16, 202, 0, 0}, {6, 1, 16, 206, 0, 0}, {6, 2, 16, 214, 0, 0}, {6, 3, 16, 253, 0, 0},
        {6, 4, 16, 22, 0, 230}, {6, 5, 16, 300, 0, 0}, {6, 6, 16, 245, 0, 138},
    };

    /** Likewise, but one more key would be one too many. */
    private static final int[][] JUST_NO_ROOM = {
        {1, 0, 16, 8, 0, 0}, {1, 1, 16, 0, 0, 12},
        {2, 0, 32, 8, 0, 0}, {2, 1, 16, 26, 0, 0}, {2, 2, 16, 17, 0, 7},
        {3, 0, 64, 8, 0, 0}, {3, 1, 64, 26, 0, 0}, {3, 2, 64, 26, 0, 0}, {3, 3, 16, 48, 0, 0},
        {4, 0, 16, 54, 0, 0}, {4, 1, 16, 71, 0, 0}, {4, 2, 16, 65, 0, 0}, {4, 3, 16, 99, 0, 0},
        {4, 4, 16, 55, 0, 41},
        {5, 0, 16, 105, 0, 0}, {5, 1, 16, 122, 0, 0}, {5, 2, 16, 116, 0, 0}, {5, 3, 16, 41, 0, 88},
        {5, 4, 16, 54, 0, 125}, {5, 5, 16, 122, 0, 70},
        {6, 0, 16, 203, 0, 0}, {6, 1, 16, 216, 0, 0}, {6, 2, 16, 225, 0, 0}, {6, 3, 16, 230, 0, 0},
        {6, 4, 16, 255, 0, 0}, {6, 5, 16, 22, 0, 331}, {6, 6, 16, 54, 0, 330},
    };

    /**
     * T, h, the cells wanted, how many keys 0, 1, .. are put, how many of the least are dropped. When
     * the least key then goes, just D(h) keys are left.
     */
    private static final int[][] JUST_ENOUGH = {
        {1, 0, 16, 2, 0}, {1, 1, 16, 9, 4},
        {2, 0, 32, 2, 0}, {2, 1, 16, 14, 3}, {2, 2, 16, 14, 5},
        {3, 0, 64, 2, 0}, {3, 1, 64, 11, 7}, {3, 2, 64, 16, 8}, {3, 3, 64, 29, 12},
        {4, 0, 16, 49, 2}, {4, 1, 16, 49, 3}, {4, 2, 16, 49, 10}, {4, 3, 16, 50, 17}, {4, 4, 32, 54, 21},
        {5, 0, 16, 100, 2}, {5, 1, 16, 100, 3}, {5, 2, 16, 100, 10}, {5, 3, 16, 106, 41},
        {5, 4, 32, 104, 41}, {5, 5, 32, 101, 36},
        {6, 0, 64, 198, 2}, {6, 1, 64, 198, 3}, {6, 2, 64, 198, 10}, {6, 3, 64, 198, 12},
        {6, 4, 64, 198, 69}, {6, 5, 32, 204, 64}, {6, 6, 64, 217, 88},
    };

    /** Likewise, but one key too few is left; where h is T, with more than the least cells and without. */
    private static final int[][] JUST_TOO_FEW = {
        {1, 0, 16, 1, 0}, {1, 1, 16, 11, 7},
        {2, 0, 32, 1, 0}, {2, 1, 32, 9, 6}, {2, 2, 16, 16, 8}, {2, 2, 32, 16, 8},
        {3, 0, 64, 1, 0}, {3, 1, 64, 9, 6}, {3, 2, 64, 17, 10}, {3, 3, 64, 28, 12}, {3, 3, 16, 39, 23},
        {4, 0, 16, 49, 3}, {4, 1, 16, 49, 7}, {4, 2, 16, 49, 7}, {4, 3, 16, 49, 17}, {4, 4, 16, 49, 17},
        {5, 0, 16, 100, 3}, {5, 1, 16, 100, 7}, {5, 2, 16, 100, 7}, {5, 3, 16, 100, 12},
        {5, 4, 16, 100, 39}, {5, 5, 16, 108, 44},
        {6, 0, 64, 198, 3}, {6, 1, 64, 198, 7}, {6, 2, 64, 198, 7}, {6, 3, 64, 198, 21},
        {6, 4, 64, 198, 42}, {6, 5, 64, 198, 62}, {6, 6, 32, 203, 75},
    };

    public static void main(String[] args) {
        checkTables();
        checkRows("U(h), rounded down, is not passed", JUST_ROOM, 0, true);
        checkRows("U(h), rounded down, would be passed", JUST_NO_ROOM, 1, true);
        checkRows("D(h), rounded up, is reached", JUST_ENOUGH, 0, false);
        checkRows("D(h), rounded up, is missed", JUST_TOO_FEW, -1, false);
        Due.end("all limits are kept on both sides");
    }

    /** The tables are the formulas, rounded as the document says. */
    private static void checkTables() {
        for (int t = 1; t <= 6; t++) {
            for (int h = 0; h <= t; h++) {
                Due.about("T " + t + ", h " + h);
                int width = 8 << h;
                int most = MOST[t - 1][h] * 4 * t;
                Due.same("U(h) of the table", most <= width * (4 * t - h) && width * (4 * t - h) < most + 4 * t, true);
                int fewest = FEWEST[t - 1][h] * 8 * t;
                Due.same("D(h) of the table", fewest - 8 * t < width * (t + h) && width * (t + h) <= fewest, true);
            }
        }
    }

    private static void checkRows(String what, int[][] rows, int over, boolean puts) {
        boolean[][] met = new boolean[7][7];
        for (int[] row : rows) {
            Due.about(what + ", T " + row[0] + ", h " + row[1] + ", of " + row[2]);
            met[row[0]][row[1]] = true;
            if (puts) {
                checkPut(row, over);
            } else {
                checkRemove(row, over);
            }
        }
        for (int levels = 1; levels <= 6; levels++) {
            for (int height = 0; height <= levels; height++) {
                Due.same("a row for T " + levels + ", h " + height, met[levels][height], true);
            }
        }
    }

    // ---- putting

    private static void checkPut(int[] row, int over) {
        int levels = row[0];
        int height = row[1];
        Watched x = Watched.rising(row[2], row[3]);
        x.drop(0, row[4]);
        x.putRow(-1, -1, row[5]);
        long key = row[5] == 0 ? row[3] : -1 - row[5];
        long[] cells = x.cellsSeen();
        int segment = segmentFor(cells, key);
        Due.same("N before", cells.length, 8 << levels);
        Due.same("keys and one more", keysIn(cells, segment, height) + 1, MOST[levels - 1][height] + over);
        int due = 0;
        while (due <= levels && keysIn(cells, segment, due) + 1 > MOST[levels - 1][due]) {
            due++;
        }
        Due.same("the least height with room is the one of this row", due == height, over == 0);
        if (due > 6) {
            String before = x.state();
            Due.same("put(" + key + ")", x.put(key, 5), -1);
            Due.same("the state after a refused put", x.state(), before);
            return;
        }
        long moved = x.movedSeen();
        Due.same("put(" + key + ")", x.put(key, 5), 1);
        checkSpread(x, cells, Math.max(cells.length, 8 << due), segment, due, key, moved);
    }

    /** Seeking reaches the segment of the least key that is not less, and the last one when there is none. */
    private static int segmentFor(long[] cells, long key) {
        for (int i = 0; i < cells.length; i++) {
            if (cells[i] != NONE && cells[i] >= key) {
                return i / 8;
            }
        }
        return cells.length / 8 - 1;
    }

    // ---- removing

    private static void checkRemove(int[] row, int over) {
        int levels = row[0];
        int height = row[1];
        Watched x = Watched.rising(row[2], row[3]);
        for (int gone = 0; gone < row[4]; gone += 64) {
            x.drop(0, Math.min(64, row[4] - gone));
        }
        long key = row[4];
        long[] cells = x.cellsSeen();
        Due.same("N before", cells.length, 8 << levels);
        int segment = segmentFor(cells, key);
        empty(cells, key);
        Due.same("keys left", keysIn(cells, segment, height), FEWEST[levels - 1][height] + over);
        int due = 0;
        while (due <= levels && keysIn(cells, segment, due) < FEWEST[levels - 1][due]) {
            due++;
        }
        Due.same("the least height with enough is the one of this row", due == height, over == 0);
        int window = x.windowSeen();
        long moved = x.movedSeen();
        Due.same("remove(" + key + ")", x.remove(key), true);
        if (due <= levels) {
            checkSpread(x, cells, cells.length, segment, due, NONE, moved);
        } else if (cells.length > row[2]) {
            checkSpread(x, cells, cells.length / 2, 0, levels - 1, NONE, moved);
        } else {
            Due.same("the cells when nothing more is done", Arrays.toString(x.cellsSeen()), Arrays.toString(cells));
            Due.same("window() when nothing more is done", x.window(), window);
            Due.same("moved() when nothing more is done", x.moved(), moved);
        }
    }

    private static void empty(long[] cells, long key) {
        for (int i = 0; i < cells.length; i++) {
            if (cells[i] == key) {
                cells[i] = NONE;
            }
        }
    }

    // ---- both

    private static int firstOf(int segment, int height) {
        return segment / (1 << height) * (8 << height);
    }

    private static int keysIn(long[] cells, int segment, int height) {
        int keys = 0;
        for (int i = 0; i < 8 << height; i++) {
            keys += cells[firstOf(segment, height) + i] == NONE ? 0 : 1;
        }
        return keys;
    }

    /** Checks that the window's keys, with a new one unless it is NONE, were spread, and nothing else was done. */
    private static void checkSpread(Watched x, long[] before, int cells, int segment, int height, long fresh, long moved) {
        boolean sameN = cells == before.length;
        int first = firstOf(segment, height);
        int width = 8 << height;
        List<Long> keys = new ArrayList<>();
        for (int i = 0; i < before.length; i++) {
            if (before[i] != NONE && (!sameN || i >= first && i < first + width)) {
                keys.add(before[i]);
            }
        }
        if (fresh != NONE) {
            keys.add(fresh);
            keys.sort(null);
        }
        long[] due = new long[cells];
        Arrays.fill(due, NONE);
        if (sameN) {
            System.arraycopy(before, 0, due, 0, cells);
            Arrays.fill(due, first, first + width, NONE);
        }
        for (int i = 0; i < keys.size(); i++) {
            due[first + i * width / keys.size()] = keys.get(i);
        }
        Due.same("the cells", Arrays.toString(x.cellsSeen()), Arrays.toString(due));
        Due.same("window()", x.window(), height);
        Due.same("moved()", x.moved(), moved + keys.size());
    }
}
