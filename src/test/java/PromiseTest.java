/** For each promise of the document: ordinary inputs, the edges it names, and wrong inputs. */
public final class PromiseTest {
    private static final long NONE = Long.MIN_VALUE;
    private static final long MAX = Long.MAX_VALUE;
    private static int wrong = 0;
    private static int promise = 0;

    public static void main(String[] args) {
        promise = 1;
        newObjectTakesThreeSizes();
        newObjectIsEmpty();
        promise = 2;
        putSpreadsOverASegment();
        putSpreadsOverAWiderWindow();
        putDoubles();
        putUsesTheLimitOfEachHeight();
        putAgainOnlyChangesTheValue();
        putRefusesNone();
        putRefusesWhenFull();
        putFindsRoomInASegmentOfAFullStore();
        promise = 3;
        fillPutsARow();
        fillWraps();
        fillEndsBeforeARefusedKey();
        fillRefusesBadLengths();
        promise = 4;
        removeSpreads();
        removeHalves();
        removeRoundsTheLeastNumberUp();
        removeKeepsTheLeastCells();
        removeRefusesWhatIsNotThere();
        promise = 5;
        dropTakesTheLeastNotBelow();
        dropIsARowOfRemoves();
        dropRefusesBadLengths();
        promise = 6;
        hasTells();
        promise = 7;
        getTells();
        promise = 8;
        floorTells();
        promise = 9;
        ceilingTells();
        promise = 10;
        selectTells();
        promise = 11;
        countTells();
        promise = 12;
        sumTells();
        promise = 13;
        sizeTells();
        promise = 14;
        cellsTells();
        promise = 15;
        cellKeyTells();
        promise = 16;
        placeOfEveryNode();
        promise = 17;
        borneTells();
        promise = 18;
        touchedCountsBlocks();
        touchedForNone();
        touchedRefusesBadBlocks();
        promise = 19;
        windowTells();
        promise = 20;
        movedTells();
        System.out.println(wrong == 0 ? "all promises are kept" : wrong + " answers are not as due");
        if (wrong != 0) {
            System.exit(1);
        }
    }

    // ---- tools

    private static void due(String what, long got, long want) {
        if (got != want) {
            wrong++;
            System.out.println("promise " + promise + ": " + what + " answered " + got + ", due is " + want);
        }
    }

    private static void due(String what, boolean got, boolean want) {
        due(what, got ? 1L : 0L, want ? 1L : 0L);
    }

    private static void due(String what, String got, String want) {
        if (!got.equals(want)) {
            wrong++;
            System.out.println("promise " + promise + ": " + what + " is [" + got + "], due is [" + want + "]");
        }
    }

    /** Each full cell as cell:key. */
    private static String layout(GappedStore x) {
        StringBuilder text = new StringBuilder();
        for (int i = 0; i < x.cells(); i++) {
            if (x.cellKey(i) != NONE) {
                text.append(text.length() == 0 ? "" : " ").append(i).append(':').append(x.cellKey(i));
            }
        }
        return text.toString();
    }

    /** All that can be seen of the state. */
    private static String state(GappedStore x) {
        StringBuilder text = new StringBuilder(layout(x));
        for (int k = 0; k < x.size(); k++) {
            text.append(' ').append(x.get(x.select(k)));
        }
        return text.append(" N ").append(x.cells()).append(" window ").append(x.window())
                .append(" moved ").append(x.moved()).toString();
    }

    private static GappedStore withKeysOneTo(int last) {
        GappedStore x = new GappedStore(16);
        for (int key = 1; key <= last; key++) {
            x.put(key, 10L * key);
        }
        return x;
    }

    /** The even keys from 0 on, till the first is refused. */
    private static GappedStore full() {
        GappedStore x = new GappedStore(64);
        for (int row = 0; row < 8; row++) {
            x.fill(128L * row, 2L, 64);
        }
        return x;
    }

    private static GappedStore withLevels(int levels) {
        GappedStore x = new GappedStore(16);
        for (int key = 0; key < 400 && x.cells() < 8 << levels; key++) {
            x.put(key, key);
        }
        return x;
    }

    // ---- promise 1

    private static void newObjectTakesThreeSizes() {
        int[] good = {16, 32, 64};
        for (int cells : good) {
            due("cells of " + cells, new GappedStore(cells).cells(), cells);
        }
        int[] bad = {0, 1, 8, 15, 17, 24, 31, 33, 48, 63, 65, 128, 512, 1024, -1, -16, -64,
            Integer.MIN_VALUE, Integer.MAX_VALUE};
        for (int cells : bad) {
            due("cells of " + cells, new GappedStore(cells).cells(), 16);
        }
    }

    private static void newObjectIsEmpty() {
        GappedStore x = new GappedStore(64);
        due("layout", layout(x), "");
        due("size()", x.size(), 0);
        due("window()", x.window(), -1);
        due("moved()", x.moved(), 0);
        due("NONE", GappedStore.NONE, NONE);
        due("BAD", GappedStore.BAD, -1);
        GappedStore y = new GappedStore(64);
        y.put(1, 1);
        due("another object's size()", x.size(), 0);
    }

    // ---- promise 2

    private static void putSpreadsOverASegment() {
        GappedStore x = new GappedStore(16);
        due("put(20)", x.put(20, 1), 1);
        due("one key", layout(x), "8:20");
        due("put(10)", x.put(10, 2), 1);
        due("two keys", layout(x), "8:10 12:20");
        due("put(15)", x.put(15, 3), 1);
        due("three keys", layout(x), "8:10 10:15 13:20");
        due("get(10)", x.get(10), 2);
        due("get(15)", x.get(15), 3);
        due("get(20)", x.get(20), 1);
    }

    private static void putSpreadsOverAWiderWindow() {
        due("eight keys", layout(withKeysOneTo(8)), "8:1 9:2 10:3 11:4 12:5 13:6 14:7 15:8");
        GappedStore x = withKeysOneTo(9);
        due("nine keys", layout(x), "0:1 1:2 3:3 5:4 7:5 8:6 10:7 12:8 14:9");
        due("window()", x.window(), 1);
        x.put(0, 0);
        due("a key for the left segment", layout(x), "0:0 1:1 2:2 4:3 5:4 6:5 8:6 10:7 12:8 14:9");
        due("window()", x.window(), 0);
    }

    private static void putDoubles() {
        GappedStore x = withKeysOneTo(13);
        due("cells()", x.cells(), 16);
        due("put(14)", x.put(14, 140), 1);
        due("cells()", x.cells(), 32);
        due("fourteen keys", layout(x),
                "0:1 2:2 4:3 6:4 9:5 11:6 13:7 16:8 18:9 20:10 22:11 25:12 27:13 29:14");
        due("window()", x.window(), 2);
        for (int key = 1; key <= 14; key++) {
            due("get(" + key + ")", x.get(key), 10L * key);
        }
    }

    /** At N = 32 the limits of the heights 0, 1 and 2 are 8, 14 and 24. */
    private static void putUsesTheLimitOfEachHeight() {
        GappedStore x = new GappedStore(32);
        x.fill(100, 1, 8);
        due("eight keys", layout(x), "24:100 25:101 26:102 27:103 28:104 29:105 30:106 31:107");
        x.put(108, 0);
        due("window() at 9", x.window(), 1);
        due("nine keys", layout(x), "16:100 17:101 19:102 21:103 23:104 24:105 26:106 28:107 30:108");
        x.fill(109, 1, 4);
        due("window() at 13", x.window(), 0);
        x.put(113, 0);
        due("window() at 14, the limit", x.window(), 1);
        x.fill(114, 1, 1);
        due("window() at 15", x.window(), 0);
        x.put(115, 0);
        due("window() at 16, over the limit of height 1", x.window(), 2);
        due("cells()", x.cells(), 32);
        due("sixteen keys", x.cellKey(30), 115);
    }

    private static void putAgainOnlyChangesTheValue() {
        GappedStore x = withKeysOneTo(9);
        String cells = layout(x);
        long moved = x.moved();
        due("put(5, -7)", x.put(5, -7), 0);
        due("get(5)", x.get(5), -7);
        due("get(4)", x.get(4), 40);
        due("layout", layout(x), cells);
        due("moved()", x.moved(), moved);
        due("window()", x.window(), 1);
        due("size()", x.size(), 9);
    }

    private static void putRefusesNone() {
        GappedStore x = withKeysOneTo(3);
        String before = state(x);
        due("put(NONE)", x.put(NONE, 1), -1);
        due("state", state(x), before);
        due("put(NONE + 1)", x.put(NONE + 1, 1), 1);
        due("put(MAX)", x.put(MAX, 1), 1);
        due("select(0)", x.select(0), NONE + 1);
        due("select(4)", x.select(4), MAX);
    }

    private static void putRefusesWhenFull() {
        GappedStore x = full();
        due("cells()", x.cells(), 512);
        String before = state(x);
        due("put of a new key", x.put(1_000_000, 1), -1);
        due("state", state(x), before);
        due("put of a key that is there", x.put(0, 99), 0);
        due("get(0)", x.get(0), 99);
    }

    private static void putFindsRoomInASegmentOfAFullStore() {
        GappedStore x = full();
        int size = x.size();
        due("more keys than the limit of all cells, 384", size >= 384, true);
        due("put(1)", x.put(1, 5), 1);
        due("window()", x.window(), 0);
        due("size()", x.size(), size + 1);
        due("cells()", x.cells(), 512);
    }

    // ---- promise 3

    private static void fillPutsARow() {
        GappedStore x = new GappedStore(16);
        due("fill(5, 3, 4)", x.fill(5, 3, 4), 4);
        due("layout", layout(x), "8:5 10:8 12:11 14:14");
        for (int i = 0; i < 4; i++) {
            due("value " + i, x.get(5 + 3L * i), i);
        }
        due("fill over keys that are there", x.fill(2, 3, 4), 1);
        due("get(2)", x.get(2), 0);
        due("get(11)", x.get(11), 3);
        due("get(14)", x.get(14), 3);
        due("fill downwards", x.fill(1, -2, 3), 3);
        due("get(-3)", x.get(-3), 2);
        due("fill with step 0", x.fill(50, 0, 6), 1);
        due("get(50)", x.get(50), 5);
        due("fill of 64", x.fill(1000, 1, 64), 64);
        due("get(1063)", x.get(1063), 63);
    }

    private static void fillWraps() {
        GappedStore x = new GappedStore(16);
        due("fill(MAX, 2, 3)", x.fill(MAX, 2, 3), 3);
        due("get(MAX)", x.get(MAX), 0);
        due("get(NONE + 1)", x.get(NONE + 1), 1);
        due("get(NONE + 3)", x.get(NONE + 3), 2);
        due("fill with a step that wraps", x.fill(0, MAX, 4), 3);
        due("get(-2)", x.get(-2), 2);
        due("get(MAX)", x.get(MAX), 1);
        due("get(MAX - 2)", x.get(MAX - 2), 3);
    }

    private static void fillEndsBeforeARefusedKey() {
        GappedStore x = new GappedStore(16);
        due("fill(MAX - 1, 1, 5)", x.fill(MAX - 1, 1, 5), 2);
        due("layout", layout(x), "8:" + (MAX - 1) + " 12:" + MAX);
        String before = state(x);
        due("fill(NONE, 1, 5)", x.fill(NONE, 1, 5), 0);
        due("state", state(x), before);
        GappedStore y = full();
        int size = y.size();
        long last = y.select(size - 1);
        due("fill of a full store", y.fill(last, 2, 5), 0);
        due("the last key's value", y.get(last), 0);
        due("size()", y.size(), size);
    }

    private static void fillRefusesBadLengths() {
        GappedStore x = withKeysOneTo(3);
        String before = state(x);
        int[] bad = {-1, 65, Integer.MIN_VALUE, Integer.MAX_VALUE};
        for (int n : bad) {
            due("fill of " + n, x.fill(100, 1, n), -1);
        }
        due("fill of 0", x.fill(100, 1, 0), 0);
        due("fill of 0 from NONE", x.fill(NONE, 1, 0), 0);
        due("state", state(x), before);
    }

    // ---- promise 4

    private static void removeSpreads() {
        GappedStore x = withKeysOneTo(9);
        due("remove(9)", x.remove(9), true);
        due("eight keys", layout(x), "0:1 1:2 3:3 5:4 7:5 8:6 10:7 13:8");
        due("window()", x.window(), 0);
        x.remove(6);
        x.remove(7);
        due("six keys", layout(x), "0:1 1:2 3:3 5:4 7:5 8:8");
        long moved = x.moved();
        due("remove(8)", x.remove(8), true);
        due("five keys", layout(x), "0:1 3:2 6:3 9:4 12:5");
        due("window()", x.window(), 1);
        due("moved()", x.moved(), moved + 5);
        due("get(4)", x.get(4), 40);
        due("has(8)", x.has(8), false);
    }

    private static void removeHalves() {
        GappedStore x = withKeysOneTo(14);
        long[] first = {2, 3, 4, 6, 7, 9, 10, 11};
        for (long key : first) {
            due("remove(" + key + ")", x.remove(key), true);
        }
        due("six keys", layout(x), "0:1 8:5 16:8 25:12 27:13 29:14");
        long moved = x.moved();
        due("remove(1)", x.remove(1), true);
        due("cells()", x.cells(), 16);
        due("five keys", layout(x), "0:5 3:8 6:12 9:13 12:14");
        due("window()", x.window(), 1);
        due("moved()", x.moved(), moved + 5);
        due("get(13)", x.get(13), 130);
        due("put(1) afterwards", x.put(1, 0), 1);
        due("get(1)", x.get(1), 0);
    }

    /** At N = 64 a window of height 1 should hold 16 * 4 / 24 keys, which is 3. */
    private static void removeRoundsTheLeastNumberUp() {
        GappedStore x = new GappedStore(64);
        x.fill(1, 1, 9);
        x.drop(7, 3);
        x.drop(1, 2);
        due("four keys", layout(x), "48:3 50:4 53:5 56:6");
        x.remove(6);
        due("three keys are enough", layout(x), "48:3 53:4 58:5");
        x.remove(4);
        due("two keys, one in each segment", layout(x), "48:3 58:5");
        x.remove(5);
        due("one key is too few for two segments", layout(x), "48:3");
        GappedStore y = new GappedStore(64);
        y.fill(1, 1, 9);
        y.drop(7, 3);
        y.drop(1, 3);
        due("three keys", layout(y), "48:4 52:5 56:6");
        long moved = y.moved();
        y.remove(6);
        due("two keys are too few for two segments", layout(y), "48:4 52:5");
        due("moved()", y.moved(), moved);
    }

    private static void removeKeepsTheLeastCells() {
        GappedStore x = new GappedStore(32);
        x.fill(1, 1, 3);
        due("three keys", layout(x), "24:1 26:2 29:3");
        x.remove(1);
        x.remove(2);
        due("one key", layout(x), "24:3");
        long moved = x.moved();
        due("remove(3)", x.remove(3), true);
        due("cells()", x.cells(), 32);
        due("layout", layout(x), "");
        due("moved()", x.moved(), moved);
        due("window()", x.window(), 0);
        GappedStore y = new GappedStore(64);
        y.fill(0, 1, 64);
        due("cells() of 64 keys", y.cells() > 64, true);
        y.drop(0, 64);
        due("cells() of none", y.cells(), 64);
    }

    private static void removeRefusesWhatIsNotThere() {
        GappedStore x = withKeysOneTo(9);
        String before = state(x);
        due("remove(0)", x.remove(0), false);
        due("remove(10)", x.remove(10), false);
        due("remove(NONE)", x.remove(NONE), false);
        due("remove(MAX)", x.remove(MAX), false);
        due("state", state(x), before);
        due("remove of a new object", new GappedStore(16).remove(1), false);
        due("remove(4)", x.remove(4), true);
        due("remove(4) again", x.remove(4), false);
    }

    // ---- promise 5

    private static void dropTakesTheLeastNotBelow() {
        GappedStore x = new GappedStore(16);
        x.fill(10, 10, 8);
        due("drop(25, 2)", x.drop(25, 2), 2);
        due("layout", layout(x), "8:10 9:20 10:50 12:60 13:70 14:80");
        due("drop(50, 1)", x.drop(50, 1), 1);
        due("has(50)", x.has(50), false);
        due("drop(75, 64)", x.drop(75, 64), 1);
        due("drop(75, 64) again", x.drop(75, 64), 0);
        due("drop(MAX, 64)", x.drop(MAX, 64), 0);
        due("size()", x.size(), 4);
        due("drop(NONE, 64)", x.drop(NONE, 64), 4);
        due("drop of an empty store", x.drop(NONE, 64), 0);
        due("size()", x.size(), 0);
    }

    private static void dropIsARowOfRemoves() {
        GappedStore x = withLevels(5);
        GappedStore y = withLevels(5);
        due("drop(20, 64)", x.drop(20, 64), 64);
        for (int i = 0; i < 64; i++) {
            y.remove(y.ceiling(20));
        }
        due("state", state(x), state(y));
    }

    private static void dropRefusesBadLengths() {
        GappedStore x = withKeysOneTo(9);
        String before = state(x);
        int[] bad = {-1, 65, Integer.MIN_VALUE, Integer.MAX_VALUE};
        for (int n : bad) {
            due("drop of " + n, x.drop(0, n), -1);
        }
        due("drop of 0", x.drop(0, 0), 0);
        due("state", state(x), before);
    }

    // ---- promises 6 to 13

    private static GappedStore tens() {
        GappedStore x = new GappedStore(16);
        x.put(30, 300);
        x.put(-10, -100);
        x.put(20, 0);
        x.put(MAX, 7);
        x.put(NONE + 1, 9);
        return x;
    }

    private static void hasTells() {
        GappedStore x = tens();
        due("has(30)", x.has(30), true);
        due("has(-10)", x.has(-10), true);
        due("has(20), of value 0", x.has(20), true);
        due("has(MAX)", x.has(MAX), true);
        due("has(NONE + 1)", x.has(NONE + 1), true);
        due("has(NONE)", x.has(NONE), false);
        due("has(0)", x.has(0), false);
        due("has(31)", x.has(31), false);
        due("has of a new object", new GappedStore(16).has(NONE), false);
        for (int levels = 1; levels <= 6; levels++) {
            GappedStore y = withLevels(levels);
            int size = y.size();
            for (int key = -1; key <= size; key++) {
                due("has(" + key + ") of " + size, y.has(key), key >= 0 && key < size);
            }
        }
    }

    private static void getTells() {
        GappedStore x = tens();
        due("get(30)", x.get(30), 300);
        due("get(-10)", x.get(-10), -100);
        due("get(20)", x.get(20), 0);
        due("get(MAX)", x.get(MAX), 7);
        due("get(NONE + 1)", x.get(NONE + 1), 9);
        due("get(NONE)", x.get(NONE), 0);
        due("get(29)", x.get(29), 0);
        x.put(30, NONE);
        due("get of the value NONE", x.get(30), NONE);
        x.remove(30);
        due("get(30) when it is gone", x.get(30), 0);
    }

    private static void floorTells() {
        GappedStore x = tens();
        due("floor(30)", x.floor(30), 30);
        due("floor(29)", x.floor(29), 20);
        due("floor(0)", x.floor(0), -10);
        due("floor(MAX)", x.floor(MAX), MAX);
        due("floor(MAX - 1)", x.floor(MAX - 1), 30);
        due("floor(NONE + 1)", x.floor(NONE + 1), NONE + 1);
        due("floor(NONE)", x.floor(NONE), NONE);
        x.remove(NONE + 1);
        due("floor(-11)", x.floor(-11), NONE);
        due("floor of a new object", new GappedStore(32).floor(MAX), NONE);
    }

    private static void ceilingTells() {
        GappedStore x = tens();
        due("ceiling(30)", x.ceiling(30), 30);
        due("ceiling(21)", x.ceiling(21), 30);
        due("ceiling(-9)", x.ceiling(-9), 20);
        due("ceiling(31)", x.ceiling(31), MAX);
        due("ceiling(MAX)", x.ceiling(MAX), MAX);
        due("ceiling(NONE)", x.ceiling(NONE), NONE + 1);
        x.remove(MAX);
        due("ceiling(31) above all", x.ceiling(31), NONE);
        due("ceiling of a new object", new GappedStore(32).ceiling(NONE), NONE);
    }

    private static void selectTells() {
        GappedStore x = tens();
        long[] rising = {NONE + 1, -10, 20, 30, MAX};
        for (int k = 0; k < 5; k++) {
            due("select(" + k + ")", x.select(k), rising[k]);
        }
        due("select(5)", x.select(5), NONE);
        due("select(-1)", x.select(-1), NONE);
        due("select(MIN)", x.select(Integer.MIN_VALUE), NONE);
        due("select(MAX)", x.select(Integer.MAX_VALUE), NONE);
        due("select of a new object", new GappedStore(16).select(0), NONE);
    }

    private static void countTells() {
        GappedStore x = tens();
        due("count(-10, 30)", x.count(-10, 30), 3);
        due("count(-9, 29)", x.count(-9, 29), 1);
        due("count(20, 20)", x.count(20, 20), 1);
        due("count(21, 29)", x.count(21, 29), 0);
        due("count(30, -10)", x.count(30, -10), 0);
        due("count(NONE, MAX)", x.count(NONE, MAX), 5);
        due("count(NONE, NONE)", x.count(NONE, NONE), 0);
        due("count(MAX, NONE)", x.count(MAX, NONE), 0);
        due("count of a new object", new GappedStore(16).count(NONE, MAX), 0);
    }

    private static void sumTells() {
        GappedStore x = tens();
        due("sum(-10, 30)", x.sum(-10, 30), 200);
        due("sum(-9, 30)", x.sum(-9, 30), 300);
        due("sum(-10, 29)", x.sum(-10, 29), -100);
        due("sum(30, -10)", x.sum(30, -10), 0);
        due("sum(NONE, MAX)", x.sum(NONE, MAX), 216);
        due("sum(NONE, NONE)", x.sum(NONE, NONE), 0);
        x.put(20, MAX);
        due("a sum that wraps", x.sum(20, 30), NONE + 299);
        x.remove(30);
        due("sum when 30 is gone", x.sum(-10, 30), MAX - 100);
    }

    private static void sizeTells() {
        GappedStore x = tens();
        due("size()", x.size(), 5);
        x.put(20, 1);
        due("size() after a put of what is there", x.size(), 5);
        x.put(NONE, 1);
        due("size() after a refused put", x.size(), 5);
        x.remove(20);
        x.remove(20);
        due("size() after a remove", x.size(), 4);
        x.fill(1000, 1, 64);
        due("size() after a fill", x.size(), 68);
        x.drop(1000, 60);
        due("size() after a drop", x.size(), 8);
    }

    // ---- promises 14 to 20

    private static void cellsTells() {
        GappedStore x = new GappedStore(16);
        due("cells()", x.cells(), 16);
        x.fill(1, 1, 13);
        due("cells() of 13 keys", x.cells(), 16);
        x.put(14, 1);
        due("cells() of 14 keys", x.cells(), 32);
        x.drop(1, 14);
        due("cells() of none", x.cells(), 16);
        due("cells() of a full store", full().cells(), 512);
    }

    private static void cellKeyTells() {
        GappedStore x = withKeysOneTo(9);
        long[] cells = {1, 2, NONE, 3, NONE, 4, NONE, 5, 6, NONE, 7, NONE, 8, NONE, 9, NONE};
        for (int i = 0; i < 16; i++) {
            due("cellKey(" + i + ")", x.cellKey(i), cells[i]);
        }
        int[] bad = {-1, 16, 17, 511, 512, Integer.MIN_VALUE, Integer.MAX_VALUE};
        for (int i : bad) {
            due("cellKey(" + i + ")", x.cellKey(i), NONE);
        }
        GappedStore y = withKeysOneTo(14);
        due("cellKey(29) of 32", y.cellKey(29), 14);
        y.drop(1, 12);
        due("cells()", y.cells(), 16);
        due("cellKey(29) of 16", y.cellKey(29), NONE);
    }

    private static void placeOfEveryNode() {
        int[][] places = {
            {0},
            {0, 1, 2},
            {0, 1, 2, 3, 4, 5, 6},
            {0, 1, 2, 3, 6, 9, 12, 4, 5, 7, 8, 10, 11, 13, 14},
            {0, 1, 2, 3, 4, 5, 6, 7, 10, 13, 16, 19, 22, 25, 28,
                8, 9, 11, 12, 14, 15, 17, 18, 20, 21, 23, 24, 26, 27, 29, 30},
            {0, 1, 2, 3, 4, 5, 6, 7, 14, 21, 28, 35, 42, 49, 56,
                8, 9, 15, 16, 22, 23, 29, 30, 36, 37, 43, 44, 50, 51, 57, 58,
                10, 11, 12, 13, 17, 18, 19, 20, 24, 25, 26, 27, 31, 32, 33, 34,
                38, 39, 40, 41, 45, 46, 47, 48, 52, 53, 54, 55, 59, 60, 61, 62},
        };
        for (int levels = 1; levels <= 6; levels++) {
            GappedStore x = withLevels(levels);
            int nodes = places[levels - 1].length;
            for (int k = 1; k <= nodes; k++) {
                due("place(" + k + ") of " + levels + " levels", x.place(k), places[levels - 1][k - 1]);
            }
            int[] bad = {0, -1, nodes + 1, nodes + 2, Integer.MIN_VALUE, Integer.MAX_VALUE};
            for (int k : bad) {
                due("place(" + k + ") of " + levels + " levels", x.place(k), -1);
            }
        }
    }

    private static void borneTells() {
        due("borne(0) of a new object", new GappedStore(16).borne(0), NONE);
        GappedStore x = withKeysOneTo(14);
        due("borne(0)", x.borne(0), 7);
        due("borne(1)", x.borne(1), 4);
        due("borne(2)", x.borne(2), 11);
        int[] bad = {-1, 3, 4, Integer.MIN_VALUE, Integer.MAX_VALUE};
        for (int place : bad) {
            due("borne(" + place + ")", x.borne(place), NONE);
        }
        x.remove(7);
        due("borne(0) when 7 is gone", x.borne(0), 6);
        GappedStore y = new GappedStore(32);
        y.fill(1, 1, 9);
        due("nine keys of 32", layout(y), "16:1 17:2 19:3 21:4 23:5 24:6 26:7 28:8 30:9");
        due("borne(0) over empty segments", y.borne(0), NONE);
        due("borne(1) over an empty segment", y.borne(1), NONE);
        due("borne(2)", y.borne(2), 5);
        GappedStore z = withLevels(4);
        int[] nodeAt = {1, 2, 3, 4, 8, 9, 5, 10, 11, 6, 12, 13, 7, 14, 15};
        int[] lastSegment = {7, 3, 11, 1, 0, 2, 5, 4, 6, 9, 8, 10, 13, 12, 14};
        for (int place = 0; place < 15; place++) {
            due("borne(" + place + "), node " + nodeAt[place], z.borne(place), greatestOf(z, lastSegment[place]));
        }
    }

    private static long greatestOf(GappedStore x, int segment) {
        long greatest = NONE;
        for (int i = 8 * segment; i < 8 * segment + 8; i++) {
            greatest = Math.max(greatest, x.cellKey(i));
        }
        return greatest;
    }

    private static void touchedCountsBlocks() {
        GappedStore x = withKeysOneTo(14);
        // 5 is in segment 1: the nodes 1 and 2 at 0 and 1, the cells at 12 .. 19.
        due("touched(5, 1)", x.touched(5, 1), 10);
        due("touched(5, 2)", x.touched(5, 2), 5);
        due("touched(5, 3)", x.touched(5, 3), 4);
        due("touched(5, 8)", x.touched(5, 8), 3);
        due("touched(5, 16)", x.touched(5, 16), 2);
        due("touched(5, 20)", x.touched(5, 20), 1);
        due("touched(5, 1024)", x.touched(5, 1024), 1);
        // 4 is in segment 0, at 4 .. 11; what is above all keys goes to segment 3, at 28 .. 35.
        due("touched(4, 4)", x.touched(4, 4), 3);
        due("touched(4, 5)", x.touched(4, 5), 3);
        due("touched(99, 2)", x.touched(99, 2), 6);
        due("touched(99, 36)", x.touched(99, 36), 1);
        // Segment 15 of 128 cells: the nodes 1, 3, 7 and 15 at 0, 2, 12 and 14, the cells at 136 .. 143.
        GappedStore y = withLevels(4);
        due("touched(MAX, 1)", y.touched(MAX, 1), 12);
        due("touched(MAX, 3)", y.touched(MAX, 3), 5);
        due("touched(MAX, 8)", y.touched(MAX, 8), 3);
        due("touched(MAX, 1) of 6 levels", withLevels(6).touched(MAX, 1), 14);
        String before = state(y);
        y.touched(5, 7);
        due("state", state(y), before);
    }

    private static void touchedForNone() {
        // With nothing borne the search goes right, to the cells at 10 .. 17.
        GappedStore x = new GappedStore(16);
        due("touched(NONE, 8) of a new object", x.touched(NONE, 8), 3);
        due("touched(0, 8) of a new object", x.touched(0, 8), 3);
        // With keys on the left it goes there, to the cells at 2 .. 9.
        due("touched(NONE, 8)", withKeysOneTo(9).touched(NONE, 8), 2);
        due("touched(NONE, 2)", withKeysOneTo(9).touched(NONE, 2), 5);
    }

    private static void touchedRefusesBadBlocks() {
        GappedStore x = withKeysOneTo(9);
        int[] bad = {0, -1, 1025, Integer.MIN_VALUE, Integer.MAX_VALUE};
        for (int b : bad) {
            due("touched(1, " + b + ")", x.touched(1, b), -1);
        }
    }

    private static void windowTells() {
        GappedStore x = new GappedStore(16);
        due("window() before the first time", x.window(), -1);
        x.put(NONE, 1);
        x.remove(3);
        x.fill(1, 1, 0);
        due("window() after refused calls", x.window(), -1);
        x.fill(1, 1, 8);
        due("window() of a segment", x.window(), 0);
        x.put(9, 1);
        due("window() of two segments", x.window(), 1);
        x.put(9, 2);
        due("window() after a put of what is there", x.window(), 1);
        x.put(10, 1);
        due("window() of a segment again", x.window(), 0);
        x.fill(11, 1, 4);
        due("window() after doubling", x.window(), 2);
        x.remove(14);
        due("window() after a remove", x.window(), 0);
        due("window() after doubling to 512", withLevels(6).window(), 6);
    }

    private static void movedTells() {
        GappedStore x = new GappedStore(16);
        due("moved() at first", x.moved(), 0);
        x.put(1, 1);
        due("moved() after one", x.moved(), 1);
        x.put(2, 1);
        due("moved() after two", x.moved(), 3);
        x.put(2, 2);
        due("moved() after a put of what is there", x.moved(), 3);
        x.fill(3, 1, 6);
        due("moved() after eight", x.moved(), 36);
        x.put(9, 1);
        due("moved() after nine", x.moved(), 45);
        x.fill(10, 1, 4);
        due("moved() after thirteen", x.moved(), 45 + 5 + 6 + 7 + 8);
        x.put(14, 1);
        due("moved() after fourteen", x.moved(), 71 + 14);
        x.remove(1);
        due("moved() after a remove from a segment of four", x.moved(), 85 + 3);
    }
}
