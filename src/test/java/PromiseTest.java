/** For each promise of the document: ordinary inputs, the edges it names, and wrong inputs. */
public final class PromiseTest {
    private static final long NONE = Long.MIN_VALUE;
    private static final long MAX = Long.MAX_VALUE;

    public static void main(String[] args) {
        Due.about("promise 1");
        newObjectTakesThreeSizes();
        newObjectIsEmpty();
        Due.about("promise 2");
        putSpreadsOverASegment();
        putSpreadsOverAWiderWindow();
        putDoubles();
        putUsesTheLimitOfEachHeight();
        putAgainOnlyChangesTheValue();
        putRefusesNone();
        putRefusesWhenFull();
        putFindsRoomInASegmentOfAFullStore();
        Due.about("promise 3");
        fillPutsARow();
        fillWraps();
        fillEndsBeforeARefusedKey();
        fillRefusesBadLengths();
        Due.about("promise 4");
        removeSpreads();
        removeHalves();
        removeRoundsTheLeastNumberUp();
        removeKeepsTheLeastCells();
        removeRefusesWhatIsNotThere();
        Due.about("promise 5");
        dropTakesTheLeastNotBelow();
        dropIsARowOfRemoves();
        dropRefusesBadLengths();
        Due.about("promise 6");
        hasTells();
        Due.about("promise 7");
        getTells();
        Due.about("promise 8");
        floorTells();
        Due.about("promise 9");
        ceilingTells();
        Due.about("promise 10");
        selectTells();
        Due.about("promise 11");
        countTells();
        Due.about("promise 12");
        sumTells();
        Due.about("promise 13");
        sizeTells();
        Due.about("promise 14");
        cellsTells();
        Due.about("promise 15");
        cellKeyTells();
        Due.about("promise 16");
        placeOfEveryNode();
        Due.about("promise 17");
        borneTells();
        Due.about("promise 18");
        touchedCountsBlocks();
        touchedForNone();
        touchedRefusesBadBlocks();
        Due.about("promise 19");
        windowTells();
        Due.about("promise 20");
        movedTells();
        Due.end("all promises are kept");
    }

    // ---- tools

    private static Watched withKeysOneTo(int last) {
        Watched x = new Watched(16);
        for (int key = 1; key <= last; key++) {
            x.put(key, 10L * key);
        }
        return x;
    }

    /** The even keys from 0 on, till the first is refused. */
    private static Watched full() {
        Watched x = new Watched(64);
        for (int row = 0; row < 8; row++) {
            x.fill(128L * row, 2L, 64);
        }
        return x;
    }

    // ---- promise 1

    private static void newObjectTakesThreeSizes() {
        int[] good = {16, 32, 64};
        for (int cells : good) {
            Due.same("cells of " + cells, new Watched(cells).cells(), cells);
        }
        int[] bad = {0, 1, 8, 15, 17, 24, 31, 33, 48, 63, 65, 128, 512, 1024, -1, -16, -64,
            Integer.MIN_VALUE, Integer.MAX_VALUE};
        for (int cells : bad) {
            Due.same("cells of " + cells, new Watched(cells).cells(), 16);
        }
    }

    private static void newObjectIsEmpty() {
        Watched x = new Watched(64);
        Due.same("layout", x.layout(), "");
        Due.same("size()", x.size(), 0);
        Due.same("window()", x.window(), -1);
        Due.same("moved()", x.moved(), 0);
        Due.same("NONE", GappedStore.NONE, NONE);
        Due.same("BAD", GappedStore.BAD, -1);
        Watched y = new Watched(64);
        y.put(1, 1);
        Due.same("another object's size()", x.size(), 0);
    }

    // ---- promise 2

    private static void putSpreadsOverASegment() {
        Watched x = new Watched(16);
        Due.same("put(20)", x.put(20, 1), 1);
        Due.same("one key", x.layout(), "8:20");
        Due.same("put(10)", x.put(10, 2), 1);
        Due.same("two keys", x.layout(), "8:10 12:20");
        Due.same("put(15)", x.put(15, 3), 1);
        Due.same("three keys", x.layout(), "8:10 10:15 13:20");
        Due.same("get(10)", x.get(10), 2);
        Due.same("get(15)", x.get(15), 3);
        Due.same("get(20)", x.get(20), 1);
    }

    private static void putSpreadsOverAWiderWindow() {
        Due.same("eight keys", withKeysOneTo(8).layout(), "8:1 9:2 10:3 11:4 12:5 13:6 14:7 15:8");
        Watched x = withKeysOneTo(9);
        Due.same("nine keys", x.layout(), "0:1 1:2 3:3 5:4 7:5 8:6 10:7 12:8 14:9");
        Due.same("window()", x.window(), 1);
        x.put(0, 0);
        Due.same("a key for the left segment", x.layout(), "0:0 1:1 2:2 4:3 5:4 6:5 8:6 10:7 12:8 14:9");
        Due.same("window()", x.window(), 0);
    }

    private static void putDoubles() {
        Watched x = withKeysOneTo(13);
        Due.same("cells()", x.cells(), 16);
        Due.same("put(14)", x.put(14, 140), 1);
        Due.same("cells()", x.cells(), 32);
        Due.same("fourteen keys", x.layout(),
                "0:1 2:2 4:3 6:4 9:5 11:6 13:7 16:8 18:9 20:10 22:11 25:12 27:13 29:14");
        Due.same("window()", x.window(), 2);
        for (int key = 1; key <= 14; key++) {
            Due.same("get(" + key + ")", x.get(key), 10L * key);
        }
    }

    /** At N = 32 the limits of the heights 0, 1 and 2 are 8, 14 and 24. */
    private static void putUsesTheLimitOfEachHeight() {
        Watched x = new Watched(32);
        x.fill(100, 1, 8);
        Due.same("eight keys", x.layout(), "24:100 25:101 26:102 27:103 28:104 29:105 30:106 31:107");
        x.put(108, 0);
        Due.same("window() at 9", x.window(), 1);
        Due.same("nine keys", x.layout(), "16:100 17:101 19:102 21:103 23:104 24:105 26:106 28:107 30:108");
        x.fill(109, 1, 4);
        Due.same("window() at 13", x.window(), 0);
        x.put(113, 0);
        Due.same("window() at 14, the limit", x.window(), 1);
        x.fill(114, 1, 1);
        Due.same("window() at 15", x.window(), 0);
        x.put(115, 0);
        Due.same("window() at 16, over the limit of height 1", x.window(), 2);
        Due.same("cells()", x.cells(), 32);
        Due.same("sixteen keys", x.cellKey(30), 115);
    }

    private static void putAgainOnlyChangesTheValue() {
        Watched x = withKeysOneTo(9);
        String cells = x.layout();
        long moved = x.moved();
        Due.same("put(5, -7)", x.put(5, -7), 0);
        Due.same("get(5)", x.get(5), -7);
        Due.same("get(4)", x.get(4), 40);
        Due.same("layout", x.layout(), cells);
        Due.same("moved()", x.moved(), moved);
        Due.same("window()", x.window(), 1);
        Due.same("size()", x.size(), 9);
    }

    private static void putRefusesNone() {
        Watched x = withKeysOneTo(3);
        String before = x.state();
        Due.same("put(NONE)", x.put(NONE, 1), -1);
        Due.same("state", x.state(), before);
        Due.same("put(NONE + 1)", x.put(NONE + 1, 1), 1);
        Due.same("put(MAX)", x.put(MAX, 1), 1);
        Due.same("select(0)", x.select(0), NONE + 1);
        Due.same("select(4)", x.select(4), MAX);
    }

    private static void putRefusesWhenFull() {
        Watched x = full();
        Due.same("cells()", x.cells(), 512);
        String before = x.state();
        Due.same("put of a new key", x.put(1_000_000, 1), -1);
        Due.same("state", x.state(), before);
        Due.same("put of a key that is there", x.put(0, 99), 0);
        Due.same("get(0)", x.get(0), 99);
    }

    private static void putFindsRoomInASegmentOfAFullStore() {
        Watched x = full();
        int size = x.size();
        Due.same("more keys than the limit of all cells, 384", size >= 384, true);
        Due.same("put(1)", x.put(1, 5), 1);
        Due.same("window()", x.window(), 0);
        Due.same("size()", x.size(), size + 1);
        Due.same("cells()", x.cells(), 512);
    }

    // ---- promise 3

    private static void fillPutsARow() {
        Watched x = new Watched(16);
        Due.same("fill(5, 3, 4)", x.fill(5, 3, 4), 4);
        Due.same("layout", x.layout(), "8:5 10:8 12:11 14:14");
        for (int i = 0; i < 4; i++) {
            Due.same("value " + i, x.get(5 + 3L * i), i);
        }
        Due.same("fill over keys that are there", x.fill(2, 3, 4), 1);
        Due.same("get(2)", x.get(2), 0);
        Due.same("get(11)", x.get(11), 3);
        Due.same("get(14)", x.get(14), 3);
        Due.same("fill downwards", x.fill(1, -2, 3), 3);
        Due.same("get(-3)", x.get(-3), 2);
        Due.same("fill with step 0", x.fill(50, 0, 6), 1);
        Due.same("get(50)", x.get(50), 5);
        Due.same("fill of 64", x.fill(1000, 1, 64), 64);
        Due.same("get(1063)", x.get(1063), 63);
    }

    private static void fillWraps() {
        Watched x = new Watched(16);
        Due.same("fill(MAX, 2, 3)", x.fill(MAX, 2, 3), 3);
        Due.same("get(MAX)", x.get(MAX), 0);
        Due.same("get(NONE + 1)", x.get(NONE + 1), 1);
        Due.same("get(NONE + 3)", x.get(NONE + 3), 2);
        Due.same("fill with a step that wraps", x.fill(0, MAX, 4), 3);
        Due.same("get(-2)", x.get(-2), 2);
        Due.same("get(MAX)", x.get(MAX), 1);
        Due.same("get(MAX - 2)", x.get(MAX - 2), 3);
    }

    private static void fillEndsBeforeARefusedKey() {
        Watched x = new Watched(16);
        Due.same("fill(MAX - 1, 1, 5)", x.fill(MAX - 1, 1, 5), 2);
        Due.same("layout", x.layout(), "8:" + (MAX - 1) + " 12:" + MAX);
        String before = x.state();
        Due.same("fill(NONE, 1, 5)", x.fill(NONE, 1, 5), 0);
        Due.same("state", x.state(), before);
        Watched y = full();
        int size = y.size();
        long last = y.select(size - 1);
        Due.same("fill of a full store", y.fill(last, 2, 5), 0);
        Due.same("the last key's value", y.get(last), 0);
        Due.same("size()", y.size(), size);
    }

    private static void fillRefusesBadLengths() {
        Watched x = withKeysOneTo(3);
        String before = x.state();
        int[] bad = {-1, 65, Integer.MIN_VALUE, Integer.MAX_VALUE};
        for (int n : bad) {
            Due.same("fill of " + n, x.fill(100, 1, n), -1);
        }
        Due.same("fill of 0", x.fill(100, 1, 0), 0);
        Due.same("fill of 0 from NONE", x.fill(NONE, 1, 0), 0);
        Due.same("state", x.state(), before);
    }

    // ---- promise 4

    private static void removeSpreads() {
        Watched x = withKeysOneTo(9);
        Due.same("remove(9)", x.remove(9), true);
        Due.same("eight keys", x.layout(), "0:1 1:2 3:3 5:4 7:5 8:6 10:7 13:8");
        Due.same("window()", x.window(), 0);
        x.remove(6);
        x.remove(7);
        Due.same("six keys", x.layout(), "0:1 1:2 3:3 5:4 7:5 8:8");
        long moved = x.moved();
        Due.same("remove(8)", x.remove(8), true);
        Due.same("five keys", x.layout(), "0:1 3:2 6:3 9:4 12:5");
        Due.same("window()", x.window(), 1);
        Due.same("moved()", x.moved(), moved + 5);
        Due.same("get(4)", x.get(4), 40);
        Due.same("has(8)", x.has(8), false);
    }

    private static void removeHalves() {
        Watched x = withKeysOneTo(14);
        long[] first = {2, 3, 4, 6, 7, 9, 10, 11};
        for (long key : first) {
            Due.same("remove(" + key + ")", x.remove(key), true);
        }
        Due.same("six keys", x.layout(), "0:1 8:5 16:8 25:12 27:13 29:14");
        long moved = x.moved();
        Due.same("remove(1)", x.remove(1), true);
        Due.same("cells()", x.cells(), 16);
        Due.same("five keys", x.layout(), "0:5 3:8 6:12 9:13 12:14");
        Due.same("window()", x.window(), 1);
        Due.same("moved()", x.moved(), moved + 5);
        Due.same("get(13)", x.get(13), 130);
        Due.same("put(1) afterwards", x.put(1, 0), 1);
        Due.same("get(1)", x.get(1), 0);
    }

    /** At N = 64 a window of height 1 should hold 16 * 4 / 24 keys, which is 3. */
    private static void removeRoundsTheLeastNumberUp() {
        Watched x = new Watched(64);
        x.fill(1, 1, 9);
        x.drop(7, 3);
        x.drop(1, 2);
        Due.same("four keys", x.layout(), "48:3 50:4 53:5 56:6");
        x.remove(6);
        Due.same("three keys are enough", x.layout(), "48:3 53:4 58:5");
        x.remove(4);
        Due.same("two keys, one in each segment", x.layout(), "48:3 58:5");
        x.remove(5);
        Due.same("one key is too few for two segments", x.layout(), "48:3");
        Watched y = new Watched(64);
        y.fill(1, 1, 9);
        y.drop(7, 3);
        y.drop(1, 3);
        Due.same("three keys", y.layout(), "48:4 52:5 56:6");
        long moved = y.moved();
        y.remove(6);
        Due.same("two keys are too few for two segments", y.layout(), "48:4 52:5");
        Due.same("moved()", y.moved(), moved);
    }

    private static void removeKeepsTheLeastCells() {
        Watched x = new Watched(32);
        x.fill(1, 1, 3);
        Due.same("three keys", x.layout(), "24:1 26:2 29:3");
        x.remove(1);
        x.remove(2);
        Due.same("one key", x.layout(), "24:3");
        long moved = x.moved();
        Due.same("remove(3)", x.remove(3), true);
        Due.same("cells()", x.cells(), 32);
        Due.same("layout", x.layout(), "");
        Due.same("moved()", x.moved(), moved);
        Due.same("window()", x.window(), 0);
        Watched y = new Watched(64);
        y.fill(0, 1, 64);
        Due.same("cells() of 64 keys", y.cells() > 64, true);
        y.drop(0, 64);
        Due.same("cells() of none", y.cells(), 64);
    }

    private static void removeRefusesWhatIsNotThere() {
        Watched x = withKeysOneTo(9);
        String before = x.state();
        Due.same("remove(0)", x.remove(0), false);
        Due.same("remove(10)", x.remove(10), false);
        Due.same("remove(NONE)", x.remove(NONE), false);
        Due.same("remove(MAX)", x.remove(MAX), false);
        Due.same("state", x.state(), before);
        Due.same("remove of a new object", new Watched(16).remove(1), false);
        Due.same("remove(4)", x.remove(4), true);
        Due.same("remove(4) again", x.remove(4), false);
    }

    // ---- promise 5

    private static void dropTakesTheLeastNotBelow() {
        Watched x = new Watched(16);
        x.fill(10, 10, 8);
        Due.same("drop(25, 2)", x.drop(25, 2), 2);
        Due.same("layout", x.layout(), "8:10 9:20 10:50 12:60 13:70 14:80");
        Due.same("drop(50, 1)", x.drop(50, 1), 1);
        Due.same("has(50)", x.has(50), false);
        Due.same("drop(75, 64)", x.drop(75, 64), 1);
        Due.same("drop(75, 64) again", x.drop(75, 64), 0);
        Due.same("drop(MAX, 64)", x.drop(MAX, 64), 0);
        Due.same("size()", x.size(), 4);
        Due.same("drop(NONE, 64)", x.drop(NONE, 64), 4);
        Due.same("drop of an empty store", x.drop(NONE, 64), 0);
        Due.same("size()", x.size(), 0);
    }

    private static void dropIsARowOfRemoves() {
        Watched x = Watched.justDoubled(5);
        Watched y = Watched.justDoubled(5);
        Due.same("drop(20, 64)", x.drop(20, 64), 64);
        for (int i = 0; i < 64; i++) {
            y.remove(y.ceiling(20));
        }
        Due.same("state", x.state(), y.state());
    }

    private static void dropRefusesBadLengths() {
        Watched x = withKeysOneTo(9);
        String before = x.state();
        int[] bad = {-1, 65, Integer.MIN_VALUE, Integer.MAX_VALUE};
        for (int n : bad) {
            Due.same("drop of " + n, x.drop(0, n), -1);
        }
        Due.same("drop of 0", x.drop(0, 0), 0);
        Due.same("state", x.state(), before);
    }

    // ---- promises 6 to 13

    private static Watched tens() {
        Watched x = new Watched(16);
        x.put(30, 300);
        x.put(-10, -100);
        x.put(20, 0);
        x.put(MAX, 7);
        x.put(NONE + 1, 9);
        return x;
    }

    private static void hasTells() {
        Watched x = tens();
        Due.same("has(30)", x.has(30), true);
        Due.same("has(-10)", x.has(-10), true);
        Due.same("has(20), of value 0", x.has(20), true);
        Due.same("has(MAX)", x.has(MAX), true);
        Due.same("has(NONE + 1)", x.has(NONE + 1), true);
        Due.same("has(NONE)", x.has(NONE), false);
        Due.same("has(0)", x.has(0), false);
        Due.same("has(31)", x.has(31), false);
        Due.same("has of a new object", new Watched(16).has(NONE), false);
        for (int levels = 1; levels <= 6; levels++) {
            Watched y = Watched.justDoubled(levels);
            int size = y.size();
            for (int key = -1; key <= size; key++) {
                Due.same("has(" + key + ") of " + size, y.has(key), key >= 0 && key < size);
            }
        }
    }

    private static void getTells() {
        Watched x = tens();
        Due.same("get(30)", x.get(30), 300);
        Due.same("get(-10)", x.get(-10), -100);
        Due.same("get(20)", x.get(20), 0);
        Due.same("get(MAX)", x.get(MAX), 7);
        Due.same("get(NONE + 1)", x.get(NONE + 1), 9);
        Due.same("get(NONE)", x.get(NONE), 0);
        Due.same("get(29)", x.get(29), 0);
        x.put(30, NONE);
        Due.same("get of the value NONE", x.get(30), NONE);
        x.remove(30);
        Due.same("get(30) when it is gone", x.get(30), 0);
    }

    private static void floorTells() {
        Watched x = tens();
        Due.same("floor(30)", x.floor(30), 30);
        Due.same("floor(29)", x.floor(29), 20);
        Due.same("floor(0)", x.floor(0), -10);
        Due.same("floor(MAX)", x.floor(MAX), MAX);
        Due.same("floor(MAX - 1)", x.floor(MAX - 1), 30);
        Due.same("floor(NONE + 1)", x.floor(NONE + 1), NONE + 1);
        Due.same("floor(NONE)", x.floor(NONE), NONE);
        x.remove(NONE + 1);
        Due.same("floor(-11)", x.floor(-11), NONE);
        Due.same("floor of a new object", new Watched(32).floor(MAX), NONE);
    }

    private static void ceilingTells() {
        Watched x = tens();
        Due.same("ceiling(30)", x.ceiling(30), 30);
        Due.same("ceiling(21)", x.ceiling(21), 30);
        Due.same("ceiling(-9)", x.ceiling(-9), 20);
        Due.same("ceiling(31)", x.ceiling(31), MAX);
        Due.same("ceiling(MAX)", x.ceiling(MAX), MAX);
        Due.same("ceiling(NONE)", x.ceiling(NONE), NONE + 1);
        x.remove(MAX);
        Due.same("ceiling(31) above all", x.ceiling(31), NONE);
        Due.same("ceiling of a new object", new Watched(32).ceiling(NONE), NONE);
    }

    private static void selectTells() {
        Watched x = tens();
        long[] rising = {NONE + 1, -10, 20, 30, MAX};
        for (int k = 0; k < 5; k++) {
            Due.same("select(" + k + ")", x.select(k), rising[k]);
        }
        Due.same("select(5)", x.select(5), NONE);
        Due.same("select(-1)", x.select(-1), NONE);
        Due.same("select(MIN)", x.select(Integer.MIN_VALUE), NONE);
        Due.same("select(MAX)", x.select(Integer.MAX_VALUE), NONE);
        Due.same("select of a new object", new Watched(16).select(0), NONE);
    }

    private static void countTells() {
        Watched x = tens();
        Due.same("count(-10, 30)", x.count(-10, 30), 3);
        Due.same("count(-9, 29)", x.count(-9, 29), 1);
        Due.same("count(20, 20)", x.count(20, 20), 1);
        Due.same("count(21, 29)", x.count(21, 29), 0);
        Due.same("count(30, -10)", x.count(30, -10), 0);
        Due.same("count(NONE, MAX)", x.count(NONE, MAX), 5);
        Due.same("count(NONE, NONE)", x.count(NONE, NONE), 0);
        Due.same("count(MAX, NONE)", x.count(MAX, NONE), 0);
        Due.same("count of a new object", new Watched(16).count(NONE, MAX), 0);
    }

    private static void sumTells() {
        Watched x = tens();
        Due.same("sum(-10, 30)", x.sum(-10, 30), 200);
        Due.same("sum(-9, 30)", x.sum(-9, 30), 300);
        Due.same("sum(-10, 29)", x.sum(-10, 29), -100);
        Due.same("sum(30, -10)", x.sum(30, -10), 0);
        Due.same("sum(NONE, MAX)", x.sum(NONE, MAX), 216);
        Due.same("sum(NONE, NONE)", x.sum(NONE, NONE), 0);
        x.put(20, MAX);
        Due.same("a sum that wraps", x.sum(20, 30), NONE + 299);
        x.remove(30);
        Due.same("sum when 30 is gone", x.sum(-10, 30), MAX - 100);
    }

    private static void sizeTells() {
        Watched x = tens();
        Due.same("size()", x.size(), 5);
        x.put(20, 1);
        Due.same("size() after a put of what is there", x.size(), 5);
        x.put(NONE, 1);
        Due.same("size() after a refused put", x.size(), 5);
        x.remove(20);
        x.remove(20);
        Due.same("size() after a remove", x.size(), 4);
        x.fill(1000, 1, 64);
        Due.same("size() after a fill", x.size(), 68);
        x.drop(1000, 60);
        Due.same("size() after a drop", x.size(), 8);
    }

    // ---- promises 14 to 20

    private static void cellsTells() {
        Watched x = new Watched(16);
        Due.same("cells()", x.cells(), 16);
        x.fill(1, 1, 13);
        Due.same("cells() of 13 keys", x.cells(), 16);
        x.put(14, 1);
        Due.same("cells() of 14 keys", x.cells(), 32);
        x.drop(1, 14);
        Due.same("cells() of none", x.cells(), 16);
        Due.same("cells() of a full store", full().cells(), 512);
    }

    private static void cellKeyTells() {
        Watched x = withKeysOneTo(9);
        long[] cells = {1, 2, NONE, 3, NONE, 4, NONE, 5, 6, NONE, 7, NONE, 8, NONE, 9, NONE};
        for (int i = 0; i < 16; i++) {
            Due.same("cellKey(" + i + ")", x.cellKey(i), cells[i]);
        }
        int[] bad = {-1, 16, 17, 511, 512, Integer.MIN_VALUE, Integer.MAX_VALUE};
        for (int i : bad) {
            Due.same("cellKey(" + i + ")", x.cellKey(i), NONE);
        }
        Watched y = withKeysOneTo(14);
        Due.same("cellKey(29) of 32", y.cellKey(29), 14);
        y.drop(1, 12);
        Due.same("cells()", y.cells(), 16);
        Due.same("cellKey(29) of 16", y.cellKey(29), NONE);
    }

    private static void placeOfEveryNode() {
        int[][] places = {
            {0},
            {0, 1, 2},
            {0, 1, 2, 3, 4, 5, 6},
            {0, 1, 2, 3, 6, 9, 12, 4, 5, 7, 8, 10, 11, 13, 14},
            {0, 1, 2, 3, 4, 5, 6, 7, 10, 13, 16, 19, 22, 25, 28,
                8, 9, 11, 12, 14, 15, 17, 18, 20, 21, 23, 24, 26, 27, 29, 30},
            {0, 1, 2, 3, 4, 5, 6, 7, 14, 21, 28, 35, 42, 49, 56,
                8, 9, 15, 16, 22, 23, 29, 30, 36, 37, 43, 44, 50, 51, 57, 58,
                10, 11, 12, 13, 17, 18, 19, 20, 24, 25, 26, 27, 31, 32, 33, 34,
                38, 39, 40, 41, 45, 46, 47, 48, 52, 53, 54, 55, 59, 60, 61, 62},
        };
        for (int levels = 1; levels <= 6; levels++) {
            Watched x = Watched.justDoubled(levels);
            int nodes = places[levels - 1].length;
            for (int k = 1; k <= nodes; k++) {
                Due.same("place(" + k + ") of " + levels + " levels", x.place(k), places[levels - 1][k - 1]);
            }
            int[] bad = {0, -1, nodes + 1, nodes + 2, Integer.MIN_VALUE, Integer.MAX_VALUE};
            for (int k : bad) {
                Due.same("place(" + k + ") of " + levels + " levels", x.place(k), -1);
            }
        }
    }

    private static void borneTells() {
        Due.same("borne(0) of a new object", new Watched(16).borne(0), NONE);
        Watched x = withKeysOneTo(14);
        Due.same("borne(0)", x.borne(0), 7);
        Due.same("borne(1)", x.borne(1), 4);
        Due.same("borne(2)", x.borne(2), 11);
        int[] bad = {-1, 3, 4, Integer.MIN_VALUE, Integer.MAX_VALUE};
        for (int place : bad) {
            Due.same("borne(" + place + ")", x.borne(place), NONE);
        }
        x.remove(7);
        Due.same("borne(0) when 7 is gone", x.borne(0), 6);
        Watched y = new Watched(32);
        y.fill(1, 1, 9);
        Due.same("nine keys of 32", y.layout(), "16:1 17:2 19:3 21:4 23:5 24:6 26:7 28:8 30:9");
        Due.same("borne(0) over empty segments", y.borne(0), NONE);
        Due.same("borne(1) over an empty segment", y.borne(1), NONE);
        Due.same("borne(2)", y.borne(2), 5);
        Watched z = Watched.justDoubled(4);
        int[] nodeAt = {1, 2, 3, 4, 8, 9, 5, 10, 11, 6, 12, 13, 7, 14, 15};
        int[] lastSegment = {7, 3, 11, 1, 0, 2, 5, 4, 6, 9, 8, 10, 13, 12, 14};
        for (int place = 0; place < 15; place++) {
            Due.same("borne(" + place + "), node " + nodeAt[place], z.borne(place), greatestOf(z, lastSegment[place]));
        }
    }

    private static long greatestOf(Watched x, int segment) {
        long[] cells = x.cellsSeen();
        long greatest = NONE;
        for (int i = 8 * segment; i < 8 * segment + 8; i++) {
            greatest = Math.max(greatest, cells[i]);
        }
        return greatest;
    }

    private static void touchedCountsBlocks() {
        Watched x = withKeysOneTo(14);
        // 5 is in segment 1: the nodes 1 and 2 at 0 and 1, the cells at 12 .. 19.
        Due.same("touched(5, 1)", x.touched(5, 1), 10);
        Due.same("touched(5, 2)", x.touched(5, 2), 5);
        Due.same("touched(5, 3)", x.touched(5, 3), 4);
        Due.same("touched(5, 8)", x.touched(5, 8), 3);
        Due.same("touched(5, 16)", x.touched(5, 16), 2);
        Due.same("touched(5, 20)", x.touched(5, 20), 1);
        Due.same("touched(5, 1024)", x.touched(5, 1024), 1);
        // 4 is in segment 0, at 4 .. 11; what is above all keys goes to segment 3, at 28 .. 35.
        Due.same("touched(4, 4)", x.touched(4, 4), 3);
        Due.same("touched(4, 5)", x.touched(4, 5), 3);
        Due.same("touched(99, 2)", x.touched(99, 2), 6);
        Due.same("touched(99, 36)", x.touched(99, 36), 1);
        // Segment 15 of 128 cells: the nodes 1, 3, 7 and 15 at 0, 2, 12 and 14, the cells at 136 .. 143.
        Watched y = Watched.justDoubled(4);
        Due.same("touched(MAX, 1)", y.touched(MAX, 1), 12);
        Due.same("touched(MAX, 3)", y.touched(MAX, 3), 5);
        Due.same("touched(MAX, 8)", y.touched(MAX, 8), 3);
        Due.same("touched(MAX, 1) of 6 levels", Watched.justDoubled(6).touched(MAX, 1), 14);
        String before = y.state();
        y.touched(5, 7);
        Due.same("state", y.state(), before);
    }

    private static void touchedForNone() {
        // With nothing borne the search goes right, to the cells at 10 .. 17.
        Watched x = new Watched(16);
        Due.same("touched(NONE, 8) of a new object", x.touched(NONE, 8), 3);
        Due.same("touched(0, 8) of a new object", x.touched(0, 8), 3);
        // With keys on the left it goes there, to the cells at 2 .. 9.
        Due.same("touched(NONE, 8)", withKeysOneTo(9).touched(NONE, 8), 2);
        Due.same("touched(NONE, 2)", withKeysOneTo(9).touched(NONE, 2), 5);
    }

    private static void touchedRefusesBadBlocks() {
        Watched x = withKeysOneTo(9);
        int[] bad = {0, -1, 1025, Integer.MIN_VALUE, Integer.MAX_VALUE};
        for (int b : bad) {
            Due.same("touched(1, " + b + ")", x.touched(1, b), -1);
        }
    }

    private static void windowTells() {
        Watched x = new Watched(16);
        Due.same("window() before the first time", x.window(), -1);
        x.put(NONE, 1);
        x.remove(3);
        x.fill(1, 1, 0);
        Due.same("window() after refused calls", x.window(), -1);
        x.fill(1, 1, 8);
        Due.same("window() of a segment", x.window(), 0);
        x.put(9, 1);
        Due.same("window() of two segments", x.window(), 1);
        x.put(9, 2);
        Due.same("window() after a put of what is there", x.window(), 1);
        x.put(10, 1);
        Due.same("window() of a segment again", x.window(), 0);
        x.fill(11, 1, 4);
        Due.same("window() after doubling", x.window(), 2);
        x.remove(14);
        Due.same("window() after a remove", x.window(), 0);
        Due.same("window() after doubling to 512", Watched.justDoubled(6).window(), 6);
    }

    private static void movedTells() {
        Watched x = new Watched(16);
        Due.same("moved() at first", x.moved(), 0);
        x.put(1, 1);
        Due.same("moved() after one", x.moved(), 1);
        x.put(2, 1);
        Due.same("moved() after two", x.moved(), 3);
        x.put(2, 2);
        Due.same("moved() after a put of what is there", x.moved(), 3);
        x.fill(3, 1, 6);
        Due.same("moved() after eight", x.moved(), 36);
        x.put(9, 1);
        Due.same("moved() after nine", x.moved(), 45);
        x.fill(10, 1, 4);
        Due.same("moved() after thirteen", x.moved(), 45 + 5 + 6 + 7 + 8);
        x.put(14, 1);
        Due.same("moved() after fourteen", x.moved(), 71 + 14);
        x.remove(1);
        Due.same("moved() after a remove from a segment of four", x.moved(), 85 + 3);
    }
}
