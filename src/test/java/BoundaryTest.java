import java.util.function.Consumer;

/**
 * Each sentence of the document that names a boundary case, quoted, with a test of its own on both
 * sides of the boundary. The limits U(h) and D(h) have theirs in LimitTest.
 */
public final class BoundaryTest {
    private static final long NONE = Long.MIN_VALUE;
    private static final long MAX = Long.MAX_VALUE;
    private static final int LOW = Integer.MIN_VALUE;
    private static final int HIGH = Integer.MAX_VALUE;
    /** How many rising keys there is room for. */
    private static final int FULL = 390;

    public static void main(String[] args) {
        terms();
        changes();
        answers();
        inside();
        Due.end("all boundaries are kept on both sides");
    }

    private static void sentence(String text, Runnable test) {
        Due.about("\"" + text + "\"");
        test.run();
    }

    private static void terms() {
        sentence("An object is used for at most 512 calls after it has been made",
                BoundaryTest::theLastOf512Calls);
        sentence("NONE = -9223372036854775807L - 1L, BAD = -1", BoundaryTest::constants);
        sentence("A KEY is a long other than -2^63", BoundaryTest::leastAndGreatestKey);
        sentence("it may have a VALUE, a long", BoundaryTest::everyValue);
        sentence("N a power of two from the least number L (16, 32 or 64) to 512", BoundaryTest::rangeOfN);
        sentence("The keys in the cells are rising", BoundaryTest::keysAreRising);
        sentence("SEGMENT s is the 8 cells from 8 s on", BoundaryTest::segmentOfEightCells);
        sentence("2^h segments that begin with one whose number is a multiple of 2^h",
                BoundaryTest::windowsBeginAtMultiples);
        sentence("the cells f + i W / n (rounded down) for i = 0 .. n - 1", BoundaryTest::spreadOneToEight);
        sentence("the cells f + i W / n (rounded down), over more segments", BoundaryTest::spreadWiderWindows);
        sentence("leaves the others empty", BoundaryTest::spreadEmptiesTheOthers);
        sentence("the greatest key in the segments below its left child", BoundaryTest::bearsTheGreatest);
        sentence("node k has segment 2 k - M on its left, 2 k + 1 - M on its right", BoundaryTest::segmentsBelowNodes);
        sentence("or nothing when these are empty", BoundaryTest::bearsNothing);
        sentence("go left when it bears a key that is not less than the one sought, else right",
                BoundaryTest::seekAtTheBorneKey);
        sentence("else right (at a node that bears nothing, whatever is sought)",
                BoundaryTest::seekPastNothing);
        sentence("a tree of one level has its node at the place 0", BoundaryTest::treeOfOneLevel);
        sentence("A being H / 2 rounded up", BoundaryTest::topOfOddTrees);
        sentence("The ADDRESS of a node is its place, that of cell i is M + i", BoundaryTest::addresses);
        sentence("When there is none: if N is 512 it is refused", BoundaryTest::refusedAt512);
        sentence("else N doubles, and all keys and the new one are spread over the window of all cells",
                BoundaryTest::doubles);
        sentence("if N is greater than L it halves, and all keys are spread over the window of all cells",
                BoundaryTest::halves);
        sentence("else nothing more is done", BoundaryTest::staysAtTheLeast);
        sentence("A call that is refused changes nothing", BoundaryTest::refusedChangesNothing);
    }

    private static void changes() {
        sentence("L is cells when this is 16, 32 or 64, else 16", BoundaryTest::leastCells);
        sentence("N is L, all cells are empty", BoundaryTest::newIsEmpty);
        sentence("1 when it is new; 0 when it is there, and its value becomes v", BoundaryTest::putNewAndThere);
        sentence("Refused, BAD: the key is NONE, or see above", BoundaryTest::putRefused);
        sentence("n of them one after the other", BoundaryTest::fillOneAfterTheOther);
        sentence("they wrap as longs do", BoundaryTest::fillWraps);
        sentence("each with its place in this row (0, 1, ..) as value", BoundaryTest::fillValues);
        sentence("ends before the first that is refused", BoundaryTest::fillEnds);
        sentence("Answers how many were new", BoundaryTest::fillAnswers);
        sentence("fill: Refused, BAD: n is not 0 .. 64", BoundaryTest::fillLengths);
        sentence("Removes a key: true. Refused, false: it is not there", BoundaryTest::removeThereAndNot);
        sentence("Removes up to n keys", BoundaryTest::dropUpToN);
        sentence("always the least one that is not less than from", BoundaryTest::dropNotLess);
        sentence("drop: Refused, BAD: n is not 0 .. 64", BoundaryTest::dropLengths);
    }

    private static void answers() {
        sentence("Whether a key is there", BoundaryTest::hasEdges);
        sentence("The value of a key; 0 when it is not there", BoundaryTest::getEdges);
        sentence("The greatest key that is not greater than key; NONE when there is none",
                BoundaryTest::floorEdges);
        sentence("The least key that is not less than key; NONE when there is none", BoundaryTest::ceilingEdges);
        sentence("The key number k (0 the least); NONE when there is none", BoundaryTest::selectEdges);
        sentence("How many keys there are from low to high, both included", BoundaryTest::countEdges);
        sentence("The sum of their values", BoundaryTest::sumEdges);
        sentence("wrapping as longs do", BoundaryTest::sumWraps);
        sentence("How many keys there are", BoundaryTest::sizeEdges);
    }

    private static void inside() {
        sentence("The key in cell i; NONE when it is empty or there is no such cell", BoundaryTest::cellKeyEdges);
        sentence("there is no such cell (after N halved)", BoundaryTest::cellKeyAfterHalving);
        sentence("The place of node k; BAD when there is no such node", BoundaryTest::placeEdges);
        sentence("NONE when it bears nothing or there is no such place", BoundaryTest::borneEdges);
        sentence("Memory is cut into blocks of b addresses, those from 0 on, from b on, and so on",
                BoundaryTest::blockEdges);
        sentence("all nodes at which seeking the key looks, and of all cells of the segment",
                BoundaryTest::touchedOneByOne);
        sentence("BAD when b is not 1 .. 1024", BoundaryTest::blockSizes);
        sentence("The height of the window over which keys were spread latest", BoundaryTest::windowLatest);
        sentence("when N changed: that of all cells", BoundaryTest::windowWhenNChanged);
        sentence("BAD before the first time", BoundaryTest::windowBeforeTheFirst);
        sentence("also one that gets into the cell where it was", BoundaryTest::movedInPlace);
        sentence("How many keys were moved, in all", BoundaryTest::movedInAll);
    }

    // ---- stores

    /** 32 cells at least, the keys 0, 100, .. 1500, the key 100 i in cell 2 i. */
    private static Watched hundreds() {
        Watched x = new Watched(32);
        x.fill(0, 100, 16);
        return x;
    }

    /** 32 cells, two keys in each segment but the first: too few are left for any window around that one. */
    private static Watched firstSegmentEmpty() {
        Watched x = hundreds();
        long[] gone = {600, 700, 1000, 1100, 1400, 1500, 0, 100, 200, 300};
        for (long key : gone) {
            x.remove(key);
        }
        return x;
    }

    /** The keys 0 .. 389; the next one finds every window around the last segment full. */
    private static Watched full() {
        return Watched.rising(16, FULL);
    }

    private static Watched of(long... keys) {
        Watched x = new Watched(16);
        for (long key : keys) {
            x.put(key, 7);
        }
        return x;
    }

    // ---- terms

    private static void theLastOf512Calls() {
        Watched x = new Watched(16);
        for (int call = 1; call <= 510; call += 2) {
            Due.same("fill, call " + call, x.fill(0, 1, 64), 64);
            Due.same("drop, call " + (call + 1), x.drop(0, 64), 64);
        }
        Due.same("put, call 511", x.put(5, 55), 1);
        Due.same("get, call 512", x.get(5), 55);
        Watched y = new Watched(64);
        for (int call = 1; call <= 511; call++) {
            Due.same("put, call " + call, y.put(call, call), call <= FULL ? 1 : -1);
        }
        Due.same("size, call 512", y.size(), FULL);
    }

    private static void constants() {
        Due.same("NONE", GappedStore.NONE, Long.MIN_VALUE);
        Due.same("BAD", GappedStore.BAD, -1);
    }

    private static void leastAndGreatestKey() {
        Watched x = new Watched(16);
        Due.same("put(-2^63)", x.put(Long.MIN_VALUE, 1), -1);
        Due.same("put(-2^63 + 1)", x.put(Long.MIN_VALUE + 1, 2), 1);
        Due.same("put(2^63 - 1)", x.put(MAX, 3), 1);
        Due.same("put(0)", x.put(0, 4), 1);
        Due.same("put(-1), the number of BAD", x.put(-1, 5), 1);
        Due.same("the cells", x.layout(), "8:" + (NONE + 1) + " 10:-1 12:0 14:" + MAX);
    }

    private static void everyValue() {
        long[] values = {NONE, NONE + 1, -1, 0, 1, MAX};
        Watched x = new Watched(16);
        for (int i = 0; i < values.length; i++) {
            x.put(i, values[i]);
        }
        // Thirty more keys double the cells twice, and dropping them halves them again.
        x.fill(100, 1, 30);
        Due.same("cells()", x.cells(), 64);
        for (int i = 0; i < values.length; i++) {
            Due.same("get(" + i + ") after doubling", x.get(i), values[i]);
        }
        x.drop(100, 30);
        Due.same("cells()", x.cells(), 16);
        for (int i = 0; i < values.length; i++) {
            Due.same("get(" + i + ") after halving", x.get(i), values[i]);
        }
    }

    private static void rangeOfN() {
        int[] wanted = {16, 32, 64};
        for (int least : wanted) {
            Watched x = new Watched(least);
            StringBuilder seen = new StringBuilder();
            int last = 0;
            for (int row = 0; row < 100; row++) {
                if (row < 50) {
                    x.fill(8 * row, 1, 8);
                } else {
                    x.drop(0, 8);
                }
                int cells = x.cells();
                if (cells != last) {
                    seen.append(cells).append(' ');
                    last = cells;
                }
            }
            String up = least == 16 ? "16 32 64 " : least == 32 ? "32 64 " : "64 ";
            String down = least == 16 ? "64 32 16 " : least == 32 ? "64 32 " : "64 ";
            Due.same("N of " + least, seen.toString(), up + "128 256 512 256 128 " + down);
        }
    }

    private static void keysAreRising() {
        Due.same("put in any order", of(MAX, 0, NONE + 1, -1, 1).layout(),
                "8:" + (NONE + 1) + " 9:-1 11:0 12:1 14:" + MAX);
        Watched x = new Watched(16);
        // Steps of 37 modulo 101 go through all of 0 .. 100 in an order that is neither rising nor falling.
        for (int i = 0; i <= 100; i++) {
            x.put(37 * i % 101, i);
        }
        long last = -1;
        for (long key : x.cellsSeen()) {
            if (key != NONE) {
                Due.same("the key after " + last, key, last + 1);
                last = key;
            }
        }
        Due.same("the last key", last, 100);
    }

    private static void segmentOfEightCells() {
        Watched x = hundreds();
        x.put(310, 1);
        Due.same("a key above segment 0 is in segment 1", x.layout(0, 16),
                "0:0 2:100 4:200 6:300 8:310 9:400 11:500 12:600 14:700");
        x.put(290, 1);
        Due.same("a key in segment 0", x.layout(0, 16),
                "0:0 1:100 3:200 4:290 6:300 8:310 9:400 11:500 12:600 14:700");
        Due.same("the cells from 16 on", x.layout(16, 32),
                "16:800 18:900 20:1000 22:1100 24:1200 26:1300 28:1400 30:1500");
    }

    private static void windowsBeginAtMultiples() {
        Watched x = hundreds();
        x.fill(601, 1, 4);
        Due.same("segment 1 is full", x.layout(8, 16), "8:400 9:500 10:600 11:601 12:602 13:603 14:604 15:700");
        x.put(605, 1);
        Due.same("around segment 1: segments 0 and 1", x.layout(),
                "0:0 1:100 2:200 3:300 4:400 6:500 7:600 8:601 9:602 11:603 12:604 13:605 14:700 "
                + "16:800 18:900 20:1000 22:1100 24:1200 26:1300 28:1400 30:1500");
        Watched y = hundreds();
        y.fill(1001, 1, 5);
        Due.same("around segment 2: segments 2 and 3", y.layout(),
                "0:0 2:100 4:200 6:300 8:400 10:500 12:600 14:700 "
                + "16:800 17:900 18:1000 19:1001 20:1002 22:1003 23:1004 24:1005 25:1100 27:1200 28:1300 29:1400 30:1500");
        Watched z = hundreds();
        z.fill(1401, 1, 4);
        z.put(1405, 1);
        Due.same("around segment 3: segments 2 and 3", z.layout(0, 18),
                "0:0 2:100 4:200 6:300 8:400 10:500 12:600 14:700 16:800 17:900");
        Due.same("window()", z.window(), 1);
    }

    private static void spreadOneToEight() {
        String[] due = {"8:1", "8:1 12:2", "8:1 10:2 13:3", "8:1 10:2 12:3 14:4", "8:1 9:2 11:3 12:4 14:5",
            "8:1 9:2 10:3 12:4 13:5 14:6", "8:1 9:2 10:3 11:4 12:5 13:6 14:7",
            "8:1 9:2 10:3 11:4 12:5 13:6 14:7 15:8"};
        Watched x = new Watched(16);
        for (int n = 1; n <= 8; n++) {
            x.put(n, n);
            Due.same(n + " keys, put rising", x.layout(), due[n - 1]);
        }
        Watched y = new Watched(16);
        y.fill(8, -1, 8);
        Due.same("8 keys, put falling", y.layout(), due[7]);
        for (int n = 7; n >= 1; n--) {
            y.remove(n + 1);
            Due.same(n + " keys left", y.layout(), due[n - 1]);
        }
    }

    private static void spreadWiderWindows() {
        Due.same("9 keys over 16", Watched.rising(16, 9).layout(), "0:0 1:1 3:2 5:3 7:4 8:5 10:6 12:7 14:8");
        Due.same("14 keys over 32", Watched.justDoubled(2).layout(),
                "0:0 2:1 4:2 6:3 9:4 11:5 13:6 16:7 18:8 20:9 22:10 25:11 27:12 29:13");
        for (int levels = 2; levels <= 6; levels++) {
            checkRoundedDown(Watched.justDoubled(levels), 8 << levels, Watched.keysThatDouble(levels));
        }
    }

    /** A cell c is i W / n rounded down just when c n <= i W < (c + 1) n. */
    private static void checkRoundedDown(Watched x, int width, int n) {
        long[] cells = x.cellsSeen();
        Due.same("N", cells.length, width);
        int i = 0;
        for (int c = 0; c < cells.length; c++) {
            if (cells[c] != NONE) {
                Due.same("key number " + i + " of " + n, cells[c], i);
                Due.same("cell " + c + " for key " + i + " of " + n, c * n <= i * width && i * width < (c + 1) * n, true);
                i++;
            }
        }
        Due.same("keys", i, n);
    }

    private static void spreadEmptiesTheOthers() {
        Watched x = Watched.rising(16, 8);
        Due.same("eight keys", x.layout(), "8:0 9:1 10:2 11:3 12:4 13:5 14:6 15:7");
        x.put(8, 1);
        Due.same("nine keys", x.layout(), "0:0 1:1 3:2 5:3 7:4 8:5 10:6 12:7 14:8");
        x.fill(9, 1, 5);
        Due.same("cells()", x.cells(), 32);
        x.drop(0, 14);
        Due.same("no keys", x.layout(), "");
    }

    private static void bearsTheGreatest() {
        Watched x = hundreds();
        Due.same("the root, over 0 .. 700", x.borne(0), 700);
        Due.same("node 2, over 0 .. 300", x.borne(1), 300);
        Due.same("node 3, over 800 .. 1100", x.borne(2), 1100);
        x.remove(700);
        x.remove(300);
        Due.same("the root without 700", x.borne(0), 600);
        Due.same("node 2 without 300", x.borne(1), 200);
        x.put(601, 1);
        Due.same("the root with 601 on its right", x.borne(0), 600);
        x.put(599, 1);
        Due.same("the root with 599", x.borne(0), 600);
        x.put(1099, 1);
        Due.same("node 3 with 1099", x.borne(2), 1100);
    }

    private static void segmentsBelowNodes() {
        for (int levels = 2; levels <= 6; levels++) {
            Watched x = Watched.justDoubled(levels);
            long[] cells = x.cellsSeen();
            int segments = 1 << levels;
            for (int k = segments / 2; k < segments; k++) {
                Due.same("lowest node " + k + " of " + levels + " levels", x.borne(x.place(k)),
                        greatest(cells, 2 * k - segments, 2 * k + 1 - segments));
            }
            for (int k = segments / 4; k < segments / 2; k++) {
                Due.same("node " + k + ", one above, of " + levels + " levels", x.borne(x.place(k)),
                        greatest(cells, 4 * k - segments, 4 * k + 2 - segments));
            }
            Due.same("the root of " + levels + " levels", x.borne(x.place(1)), greatest(cells, 0, segments / 2));
        }
    }

    private static void bearsNothing() {
        Due.same("the root of a new object", new Watched(16).borne(0), NONE);
        Watched x = Watched.rising(32, 8);
        Due.same("all keys are in segment 3", x.layout(), "24:0 25:1 26:2 27:3 28:4 29:5 30:6 31:7");
        Due.same("the root", x.borne(0), NONE);
        Due.same("node 2", x.borne(1), NONE);
        Due.same("node 3", x.borne(2), NONE);
        x.put(8, 1);
        Due.same("the keys are in the segments 2 and 3", x.layout(), "16:0 17:1 19:2 21:3 23:4 24:5 26:6 28:7 30:8");
        Due.same("the root", x.borne(0), NONE);
        Due.same("node 2", x.borne(1), NONE);
        Due.same("node 3", x.borne(2), 4);
        Watched y = firstSegmentEmpty();
        Due.same("segment 0 alone is empty", y.layout(), "8:400 12:500 16:800 20:900 24:1200 28:1300");
        Due.same("the root", y.borne(0), 500);
        Due.same("node 2", y.borne(1), NONE);
        Due.same("node 3", y.borne(2), 900);
    }

    /** With 32 cells the segments' addresses end before 12, 20, 28 and 36: a block of that size tells which was reached. */
    private static void checkReached(String what, Watched x, long key, int segment) {
        Due.same(what + ": touched(" + key + ") up to segment " + segment, x.touched(key, 12 + 8 * segment), 1);
        if (segment > 0) {
            Due.same(what + ": touched(" + key + ") before segment " + segment, x.touched(key, 4 + 8 * segment), 2);
        }
    }

    private static void seekAtTheBorneKey() {
        Watched x = hundreds();
        checkReached("less", x, 299, 0);
        checkReached("equal", x, 300, 0);
        checkReached("greater", x, 301, 1);
        checkReached("less", x, 699, 1);
        checkReached("equal", x, 700, 1);
        checkReached("greater", x, 701, 2);
        checkReached("equal", x, 1100, 2);
        checkReached("greater", x, 1101, 3);
        checkReached("the least", x, NONE, 0);
        checkReached("the greatest", x, MAX, 3);
        x.put(301, 1);
        Due.same("301 was put into segment 1", x.layout(0, 9), "0:0 2:100 4:200 6:300 8:301");
    }

    private static void seekPastNothing() {
        long[] keys = {NONE, NONE + 1, 0, MAX};
        for (long key : keys) {
            checkReached("a new object", new Watched(32), key, 3);
            checkReached("all in segment 3", Watched.rising(32, 8), key, 3);
        }
        Watched x = Watched.rising(32, 9);
        checkReached("in the segments 2 and 3", x, NONE, 2);
        checkReached("in the segments 2 and 3", x, 4, 2);
        checkReached("in the segments 2 and 3", x, 5, 3);
        Watched y = firstSegmentEmpty();
        checkReached("segment 0 empty", y, NONE, 1);
        checkReached("segment 0 empty", y, NONE + 1, 1);
        checkReached("segment 0 empty", y, 500, 1);
        checkReached("segment 0 empty", y, 501, 2);
        y.put(50, 1);
        Due.same("50 was put into segment 1", y.layout(0, 16), "8:50 10:400 13:500");
        long[] gone = {50, 1200, 1300, 800, 900};
        for (long key : gone) {
            y.remove(key);
        }
        Due.same("only segment 1 has keys", y.layout(), "8:400 12:500");
        checkReached("only segment 1 has keys", y, 500, 1);
        checkReached("only segment 1 has keys", y, 501, 3);
        y.put(600, 1);
        y.put(550, 1);
        Due.same("600 and 550 were put into segment 3", y.layout(), "8:400 12:500 24:550 28:600");
        Watched z = new Watched(16);
        z.put(1, 1);
        Due.same("a first key is put into the last segment of 16", z.layout(), "8:1");
        Watched w = new Watched(64);
        w.put(NONE + 1, 1);
        Due.same("a first key is put into the last segment of 64", w.layout(), "56:" + (NONE + 1));
    }

    private static void treeOfOneLevel() {
        Watched x = new Watched(16);
        Due.same("place(1) of 16 cells", x.place(1), 0);
        Due.same("place(2) of 16 cells", x.place(2), -1);
        Watched y = new Watched(32);
        Due.same("place(1) of 32 cells", y.place(1), 0);
        Due.same("place(2) of 32 cells", y.place(2), 1);
        Due.same("place(3) of 32 cells", y.place(3), 2);
    }

    private static void checkPlaces(Watched x, int[] places) {
        for (int k = 1; k <= places.length; k++) {
            Due.same("place(" + k + ") of " + places.length, x.place(k), places[k - 1]);
        }
    }

    private static void topOfOddTrees() {
        checkPlaces(new Watched(64), new int[] {0, 1, 2, 3, 4, 5, 6});
        checkPlaces(Watched.justDoubled(4), new int[] {0, 1, 2, 3, 6, 9, 12, 4, 5, 7, 8, 10, 11, 13, 14});
        checkPlaces(Watched.justDoubled(5), new int[] {0, 1, 2, 3, 4, 5, 6, 7, 10, 13, 16, 19, 22, 25, 28,
            8, 9, 11, 12, 14, 15, 17, 18, 20, 21, 23, 24, 26, 27, 29, 30});
        checkPlaces(Watched.justDoubled(6), new int[] {0, 1, 2, 3, 4, 5, 6, 7, 14, 21, 28, 35, 42, 49, 56,
            8, 9, 15, 16, 22, 23, 29, 30, 36, 37, 43, 44, 50, 51, 57, 58,
            10, 11, 12, 13, 17, 18, 19, 20, 24, 25, 26, 27, 31, 32, 33, 34,
            38, 39, 40, 41, 45, 46, 47, 48, 52, 53, 54, 55, 59, 60, 61, 62});
    }

    private static void addresses() {
        for (int levels = 1; levels <= 6; levels++) {
            Watched x = Watched.justDoubled(levels);
            int end = 9 << levels;
            Due.same("the last cell of " + (8 << levels) + " is before " + end, x.touched(MAX, end), 1);
            Due.same("the last cell of " + (8 << levels) + " is at " + (end - 1), x.touched(MAX, end - 1), 2);
        }
        for (int levels = 2; levels <= 6; levels++) {
            // The least key is in segment 0, whose first cell is at M and last one at M + 7.
            Watched x = Watched.justDoubled(levels);
            int first = 1 << levels;
            Due.same("cell 7 of " + (8 << levels), x.touched(0, first + 8), 1);
            Due.same("cell 7 of " + (8 << levels), x.touched(0, first + 7), 2);
        }
    }

    private static void refusedAt512() {
        Watched x = full();
        Due.same("size()", x.size(), FULL);
        Due.same("cells()", x.cells(), 512);
        String before = x.state();
        Due.same("put(390)", x.put(390, 9), -1);
        Due.same("put(MAX)", x.put(MAX, 9), -1);
        Due.same("the state", x.state(), before);
        Due.same("put of a key below all, where there is room", x.put(-1, 9), 1);
        Due.same("size()", x.size(), FULL + 1);
        Due.same("put(390) once more", x.put(390, 9), -1);
        Due.same("put of a key that is there", x.put(389, 9), 0);
        Due.same("remove(389)", x.remove(389), true);
        Due.same("put(390) when 389 is gone", x.put(390, 9), 1);
        Due.same("cells()", x.cells(), 512);
    }

    private static void doubles() {
        for (int levels = 2; levels <= 6; levels++) {
            int keys = Watched.keysThatDouble(levels);
            Watched x = Watched.rising(16, keys - 1);
            Due.same("cells() with " + (keys - 1) + " keys", x.cells(), 4 << levels);
            long moved = x.moved();
            Due.same("put(" + (keys - 1) + ")", x.put(keys - 1, -3), 1);
            Due.same("cells() with " + keys + " keys", x.cells(), 8 << levels);
            Due.same("window()", x.window(), levels);
            Due.same("moved()", x.moved(), moved + keys);
            Due.same("size()", x.size(), keys);
            Due.same("get of the new key", x.get(keys - 1), -3);
            checkRoundedDown(x, 8 << levels, keys);
        }
    }

    private static void halves() {
        Watched x = Watched.justDoubled(2);
        long[] gone = {1, 2, 3, 5, 6, 8, 9, 10};
        for (long key : gone) {
            x.remove(key);
        }
        Due.same("six keys in 32 cells", x.layout(), "0:0 8:4 16:7 25:11 27:12 29:13");
        long moved = x.moved();
        Due.same("remove(0)", x.remove(0), true);
        Due.same("five keys in 16 cells", x.layout(), "0:4 3:7 6:11 9:12 12:13");
        Due.same("cells()", x.cells(), 16);
        Due.same("window()", x.window(), 1);
        Due.same("moved()", x.moved(), moved + 5);
        Due.same("get(11)", x.get(11), 11);
        for (int levels = 3; levels <= 6; levels++) {
            checkFirstHalving(levels);
        }
    }

    private static void checkFirstHalving(int levels) {
        int keys = Watched.keysThatDouble(levels);
        Watched x = Watched.justDoubled(levels);
        int cells = x.cells();
        for (int key = 0; key < keys && cells == 8 << levels; key++) {
            Due.same("remove(" + key + ")", x.remove(key), true);
            cells = x.cells();
        }
        Due.same("N after the first halving", cells, 4 << levels);
        Due.same("window() after it", x.window(), levels - 1);
        long[] seen = x.cellsSeen();
        int left = x.size();
        for (int i = 0; i < left; i++) {
            Due.same("key number " + i + " of " + left, seen[i * (4 << levels) / left], keys - left + i);
        }
    }

    private static void staysAtTheLeast() {
        Watched x = hundreds();
        long[] gone = {600, 700, 1000, 1100, 1400, 1500, 0, 100, 200};
        for (long key : gone) {
            x.remove(key);
        }
        Due.same("seven keys", x.layout(), "0:300 8:400 12:500 16:800 20:900 24:1200 28:1300");
        long moved = x.moved();
        int window = x.window();
        Due.same("remove(300)", x.remove(300), true);
        Due.same("six keys", x.layout(), "8:400 12:500 16:800 20:900 24:1200 28:1300");
        Due.same("cells()", x.cells(), 32);
        Due.same("moved()", x.moved(), moved);
        Due.same("window()", x.window(), window);
        int[] wanted = {16, 32, 64};
        for (int least : wanted) {
            Watched y = new Watched(least);
            y.put(1, 1);
            Due.same("remove of the only key", y.remove(1), true);
            Due.same("the cells", y.layout(), "");
            Due.same("cells()", y.cells(), least);
            Due.same("window()", y.window(), 0);
            Due.same("moved()", y.moved(), 1);
        }
    }

    private static void checkUnchanged(String what, Watched x, Consumer<Watched> calls) {
        String before = x.state();
        calls.accept(x);
        Due.same("the state of " + what, x.state(), before);
    }

    private static void refusedChangesNothing() {
        checkUnchanged("a new object", new Watched(16), BoundaryTest::refusedCalls);
        checkUnchanged("a store of 16 cells", Watched.rising(16, 9), BoundaryTest::refusedCalls);
        checkUnchanged("a store with an empty segment", firstSegmentEmpty(), BoundaryTest::refusedCalls);
        checkUnchanged("a store of 256 cells", Watched.justDoubled(5), BoundaryTest::refusedCalls);
        checkUnchanged("a full store", full(), BoundaryTest::refusedCalls);
        checkUnchanged("a full store", full(), x -> {
            Due.same("put", x.put(5000, 1), -1);
            Due.same("fill", x.fill(5000, -1, 64), 0);
        });
        Watched halved = Watched.justDoubled(3);
        halved.drop(0, 20);
        checkUnchanged("a store that halved", halved, BoundaryTest::refusedCalls);
    }

    private static void refusedCalls(Watched x) {
        Due.same("put(NONE)", x.put(NONE, 8), -1);
        int[] bad = {-1, 65, -64, 128, LOW, HIGH};
        for (int n : bad) {
            Due.same("fill of " + n, x.fill(2, 1, n), -1);
            Due.same("drop of " + n, x.drop(NONE, n), -1);
        }
        long[] absent = {NONE, NONE + 1, -1, 1650, 5000, MAX};
        for (long key : absent) {
            Due.same("remove(" + key + ")", x.remove(key), false);
        }
        Due.same("touched(1, 0)", x.touched(1, 0), -1);
        Due.same("place(0)", x.place(0), -1);
        Due.same("borne(-1)", x.borne(-1), NONE);
        Due.same("cellKey(-1)", x.cellKey(-1), NONE);
        Due.same("select(-1)", x.select(-1), NONE);
    }

    // ---- promises 1 to 5

    private static void leastCells() {
        for (int cells = -600; cells <= 1100; cells++) {
            int due = cells == 32 || cells == 64 ? cells : 16;
            Due.same("cells() of " + cells, new Watched(cells).cells(), due);
        }
        Due.same("cells() of the least int", new Watched(LOW).cells(), 16);
        Due.same("cells() of the greatest int", new Watched(HIGH).cells(), 16);
        int[] wanted = {16, 32, 64, 0, 48, 128};
        for (int cells : wanted) {
            int due = cells == 32 || cells == 64 ? cells : 16;
            Watched x = Watched.rising(cells, 100);
            x.drop(0, 64);
            x.drop(0, 64);
            Due.same("cells() of " + cells + " when all keys are gone", x.cells(), due);
        }
    }

    private static void newIsEmpty() {
        int[] wanted = {16, 32, 64, 17};
        for (int cells : wanted) {
            Watched x = new Watched(cells);
            Due.same("the cells of " + cells, x.layout(), "");
            Due.same("size()", x.size(), 0);
            Due.same("moved()", x.moved(), 0);
            Due.same("window()", x.window(), -1);
            Due.same("borne(0)", x.borne(0), NONE);
            Due.same("has(0)", x.has(0), false);
        }
    }

    private static void putNewAndThere() {
        Watched x = new Watched(16);
        Due.same("put(5, 50)", x.put(5, 50), 1);
        Due.same("put(5, 50) again", x.put(5, 50), 0);
        Due.same("put(5, 0)", x.put(5, 0), 0);
        Due.same("get(5)", x.get(5), 0);
        Due.same("put(5, NONE)", x.put(5, NONE), 0);
        Due.same("get(5)", x.get(5), NONE);
        Due.same("put(4)", x.put(4, 1), 1);
        Due.same("put(6)", x.put(6, 2), 1);
        Due.same("get(5) beside 4 and 6", x.get(5), NONE);
        x.remove(5);
        Due.same("put(5) when it was removed", x.put(5, 3), 1);
        Due.same("moved()", x.moved(), 1 + 2 + 3 + 2 + 3);
        // A key that is there needs no room, also where one more key would.
        Watched y = Watched.rising(16, 13);
        String cells = y.layout();
        long moved = y.moved();
        for (int key = 0; key < 13; key++) {
            Due.same("put(" + key + ")", y.put(key, 100 + key), 0);
            Due.same("get(" + key + ")", y.get(key), 100 + key);
        }
        Due.same("the cells", y.layout(), cells);
        Due.same("moved()", y.moved(), moved);
        Due.same("cells()", y.cells(), 16);
        Due.same("size()", y.size(), 13);
    }

    private static void putRefused() {
        Watched x = new Watched(16);
        Due.same("put(NONE) into a new object", x.put(NONE, 1), -1);
        Due.same("put(NONE + 1)", x.put(NONE + 1, 1), 1);
        Due.same("put(NONE)", x.put(NONE, 1), -1);
        Due.same("put(NONE + 1) again", x.put(NONE + 1, 2), 0);
        Due.same("size()", x.size(), 1);
        Watched y = full();
        Due.same("put(NONE) into a full store", y.put(NONE, 1), -1);
        Due.same("put of a new key into a full store", y.put(1000, 1), -1);
        Due.same("put of a key that is there", y.put(389, 1), 0);
        Due.same("has(1000)", y.has(1000), false);
        Due.same("get(389)", y.get(389), 1);
    }

    private static void fillOneAfterTheOther() {
        Watched x = new Watched(16);
        Due.same("fill(0, 1, 14)", x.fill(0, 1, 14), 14);
        Watched y = new Watched(16);
        for (int key = 0; key < 14; key++) {
            y.put(key, key);
        }
        Due.same("the state after 14 keys, the last of which doubles", x.state(), y.state());
        Watched z = new Watched(64);
        Due.same("fill(1000, -7, 64)", z.fill(1000, -7, 64), 64);
        Watched w = new Watched(64);
        for (int i = 0; i < 64; i++) {
            w.put(1000 - 7L * i, i);
        }
        Due.same("the state after 64 falling keys", z.state(), w.state());
        Due.same("fill with the step 0", new Watched(16).fill(3, 0, 64), 1);
    }

    private static void fillWraps() {
        Watched x = new Watched(16);
        Due.same("fill(MAX - 2, 2, 2)", x.fill(MAX - 2, 2, 2), 2);
        Due.same("fill over the upper end", x.fill(MAX - 1, 3, 2), 2);
        Due.same("its keys", x.has(MAX - 1) && x.get(MAX - 1) == 0 && x.get(NONE + 1) == 1, true);
        Due.same("fill over the lower end", x.fill(NONE + 3, -7, 2), 2);
        Due.same("its keys", x.has(NONE + 3) && x.get(NONE + 3) == 0 && x.get(MAX - 3) == 1, true);
        Watched y = new Watched(16);
        Due.same("the step NONE, which is there and back", y.fill(5, NONE, 4), 2);
        Due.same("get(5)", y.get(5), 2);
        Due.same("get(NONE + 5)", y.get(NONE + 5), 3);
        Watched z = new Watched(16);
        Due.same("the step MAX", z.fill(1, MAX, 64), 1);
        Due.same("its only key", z.layout(), "8:1");
        Due.same("a step that wraps within the row", z.fill(0, MAX, 4), 4);
        Due.same("its keys", z.has(0) && z.get(0) == 0 && z.get(MAX) == 1 && z.get(-2) == 2 && z.get(MAX - 2) == 3, true);
    }

    private static void fillValues() {
        Watched x = new Watched(16);
        x.put(20, 77);
        x.put(30, 77);
        Due.same("fill(10, 10, 4)", x.fill(10, 10, 4), 2);
        for (int i = 0; i < 4; i++) {
            Due.same("get(" + (10 + 10 * i) + ")", x.get(10 + 10L * i), i);
        }
        Due.same("fill(50, -10, 2)", x.fill(50, -10, 2), 1);
        Due.same("get(50), the first", x.get(50), 0);
        Due.same("get(40), there before", x.get(40), 1);
        x.fill(100, 1, 64);
        Due.same("get(163), the last of 64", x.get(163), 63);
        x.fill(20, 0, 9);
        Due.same("get(20), put nine times", x.get(20), 8);
    }

    private static void fillEnds() {
        Watched x = new Watched(16);
        Due.same("fill(MAX, 1, 3) ends before NONE", x.fill(MAX, 1, 3), 1);
        Due.same("the cells", x.layout(), "8:" + MAX);
        Due.same("fill(NONE + 1, -1, 3) ends before NONE", x.fill(NONE + 1, -1, 3), 1);
        Due.same("get(MAX), which would come after", x.get(MAX), 0);
        Due.same("fill(NONE, 1, 3) ends before it begins", x.fill(NONE, 1, 3), 0);
        Due.same("size()", x.size(), 2);
        Due.same("fill(0, NONE, 3) ends before NONE", x.fill(0, NONE, 3), 1);
        Due.same("get(0)", x.get(0), 0);
        Watched y = Watched.rising(16, 384);
        Due.same("fill(384, 1, 64) ends when it is full", y.fill(384, 1, 64), 6);
        Due.same("the last key that was put", y.select(389), 389);
        Due.same("size()", y.size(), FULL);
        y.put(389, -9);
        y.put(0, -9);
        Due.same("a refused key, then one that is there", y.fill(1000, -1000, 2), 0);
        Due.same("get(0), unchanged", y.get(0), -9);
        Due.same("a key that is there, then a refused one", y.fill(389, 1000, 2), 0);
        Due.same("get(389), changed", y.get(389), 0);
        Due.same("a refused key, then one with room", y.fill(1000, -1001, 2), 0);
        Due.same("has(-1)", y.has(-1), false);
        Due.same("that one alone", y.fill(-1, 1, 1), 1);
    }

    private static void fillAnswers() {
        Watched x = new Watched(16);
        Due.same("all new", x.fill(0, 2, 5), 5);
        Due.same("none new", x.fill(0, 2, 5), 0);
        Due.same("every other one new", x.fill(0, 1, 9), 4);
        Due.same("size()", x.size(), 9);
        Due.same("all of 64 new", x.fill(100, 1, 64), 64);
        Due.same("none of 64 new", x.fill(163, -1, 64), 0);
        Due.same("63 of 64 new", x.fill(163, 1, 64), 63);
    }

    private static void fillLengths() {
        Watched x = Watched.rising(16, 3);
        checkUnchanged("a store", x, s -> {
            int[] bad = {-1, 65, -2, 66, 128, -64, LOW, HIGH};
            for (int n : bad) {
                Due.same("fill of " + n, s.fill(10, 1, n), -1);
            }
            Due.same("fill of 0", s.fill(10, 1, 0), 0);
            Due.same("fill of 0 from NONE", s.fill(NONE, 1, 0), 0);
            Due.same("fill of 65 from NONE", s.fill(NONE, 1, 65), -1);
        });
        Due.same("fill of 1", x.fill(10, 1, 1), 1);
        Due.same("fill of 63", x.fill(100, 1, 63), 63);
        Due.same("fill of 64", x.fill(200, 1, 64), 64);
        Due.same("size()", x.size(), 131);
    }

    private static void removeThereAndNot() {
        Watched x = of(10, 20, 30);
        long[] absent = {NONE, NONE + 1, 9, 11, 19, 21, 29, 31, MAX, 0};
        for (long key : absent) {
            Due.same("remove(" + key + ")", x.remove(key), false);
        }
        Due.same("the cells", x.layout(), "8:10 10:20 13:30");
        Due.same("remove(20)", x.remove(20), true);
        Due.same("remove(20) again", x.remove(20), false);
        Due.same("remove(10)", x.remove(10), true);
        Due.same("remove(30), the last", x.remove(30), true);
        Due.same("remove(30) again", x.remove(30), false);
        Due.same("remove(NONE) where all is empty", x.remove(NONE), false);
        Watched y = of(NONE + 1, MAX);
        Due.same("remove(NONE)", y.remove(NONE), false);
        Due.same("remove(NONE + 1)", y.remove(NONE + 1), true);
        Due.same("remove(MAX)", y.remove(MAX), true);
        Due.same("size()", y.size(), 0);
        Watched z = full();
        Due.same("remove(390) of a full store", z.remove(390), false);
        Due.same("remove(-1) of a full store", z.remove(-1), false);
        Due.same("remove(0) of a full store", z.remove(0), true);
        Due.same("remove(389) of a full store", z.remove(389), true);
    }

    private static void dropUpToN() {
        int[] keys = {63, 64, 65};
        for (int n : keys) {
            Watched x = Watched.rising(16, n);
            Due.same("drop(0, 64) of " + n, x.drop(0, 64), Math.min(n, 64));
            Due.same("size()", x.size(), n - Math.min(n, 64));
        }
        Watched y = Watched.rising(16, 5);
        Due.same("drop(0, 0)", y.drop(0, 0), 0);
        Due.same("drop(0, 1)", y.drop(0, 1), 1);
        Due.same("drop(0, 3)", y.drop(0, 3), 3);
        Due.same("size()", y.size(), 1);
        Due.same("drop(0, 2)", y.drop(0, 2), 1);
        Due.same("drop(0, 2) when there is none", y.drop(0, 2), 0);
        Due.same("drop of a new object", new Watched(16).drop(NONE, 64), 0);
    }

    private static void dropNotLess() {
        Watched x = of(10, 20, 30, 40, 50);
        Due.same("drop(21, 1)", x.drop(21, 1), 1);
        Due.same("has(30)", x.has(30), false);
        Due.same("drop(20, 1)", x.drop(20, 1), 1);
        Due.same("has(20)", x.has(20), false);
        Due.same("drop(51, 64)", x.drop(51, 64), 0);
        Due.same("drop(50, 64)", x.drop(50, 64), 1);
        Due.same("drop(11, 64), which leaves 10", x.drop(11, 64), 1);
        Due.same("the cells", x.layout(), "8:10");
        Watched y = of(NONE + 1, 0, MAX);
        Due.same("drop(NONE, 1)", y.drop(NONE, 1), 1);
        Due.same("the least went", y.has(NONE + 1), false);
        Due.same("drop(MAX, 64)", y.drop(MAX, 64), 1);
        Due.same("drop(1, 64)", y.drop(1, 64), 0);
        Due.same("drop(NONE + 1, 64)", y.drop(NONE + 1, 64), 1);
        Watched z = Watched.rising(16, 100);
        Due.same("drop(37, 20)", z.drop(37, 20), 20);
        Due.same("what is left below", z.count(0, 36), 37);
        Due.same("what is left between", z.count(37, 56), 0);
        Due.same("what is left above", z.count(57, 99), 43);
        // Each key goes by a removal of its own, so the state is that after as many calls of remove.
        Watched w = Watched.rising(16, 100);
        for (int key = 37; key < 57; key++) {
            w.remove(key);
        }
        Due.same("the state", z.state(), w.state());
    }

    private static void dropLengths() {
        Watched x = Watched.rising(16, 70);
        checkUnchanged("a store", x, s -> {
            int[] bad = {-1, 65, -2, 66, 128, -64, LOW, HIGH};
            for (int n : bad) {
                Due.same("drop of " + n, s.drop(0, n), -1);
                Due.same("drop of " + n + " where there is nothing", s.drop(1000, n), -1);
            }
            Due.same("drop of 0", s.drop(0, 0), 0);
        });
        Due.same("drop of 64", x.drop(0, 64), 64);
        Due.same("drop of 1", x.drop(0, 1), 1);
        Due.same("size()", x.size(), 5);
    }

    // ---- promises 6 to 13

    private static void hasEdges() {
        Watched x = of(NONE + 1, -5, 0, 5, MAX);
        long[] there = {NONE + 1, -5, 0, 5, MAX};
        for (long key : there) {
            Due.same("has(" + key + ")", x.has(key), true);
        }
        long[] absent = {NONE, NONE + 2, -6, -4, -1, 1, 4, 6, MAX - 1};
        for (long key : absent) {
            Due.same("has(" + key + ")", x.has(key), false);
        }
        Due.same("has(NONE) of a new object", new Watched(16).has(NONE), false);
        Due.same("has(0) of a new object", new Watched(16).has(0), false);
        Watched y = full();
        for (int key = -1; key <= FULL; key++) {
            Due.same("has(" + key + ") of a full store", y.has(key), key >= 0 && key < FULL);
        }
    }

    private static void getEdges() {
        Watched x = new Watched(16);
        Due.same("get(0) of a new object", x.get(0), 0);
        Due.same("get(NONE) of a new object", x.get(NONE), 0);
        x.put(10, 5);
        x.put(20, 0);
        x.put(30, -1);
        Due.same("get(10)", x.get(10), 5);
        Due.same("get(20), whose value is 0", x.get(20), 0);
        Due.same("get(30), whose value is BAD's number", x.get(30), -1);
        long[] absent = {NONE, NONE + 1, 9, 11, 29, 31, MAX};
        for (long key : absent) {
            Due.same("get(" + key + ")", x.get(key), 0);
        }
        x.remove(10);
        Due.same("get(10) when it is gone", x.get(10), 0);
        x.put(9, 4);
        Due.same("get(9)", x.get(9), 4);
        Due.same("get(10)", x.get(10), 0);
    }

    private static void floorEdges() {
        Watched x = of(-10, 10, 20);
        Due.same("floor(-11)", x.floor(-11), NONE);
        Due.same("floor(-10)", x.floor(-10), -10);
        Due.same("floor(9)", x.floor(9), -10);
        Due.same("floor(10)", x.floor(10), 10);
        Due.same("floor(11)", x.floor(11), 10);
        Due.same("floor(19)", x.floor(19), 10);
        Due.same("floor(20)", x.floor(20), 20);
        Due.same("floor(MAX)", x.floor(MAX), 20);
        Due.same("floor(NONE)", x.floor(NONE), NONE);
        Due.same("floor(NONE + 1)", x.floor(NONE + 1), NONE);
        Due.same("floor(MAX) of a new object", new Watched(16).floor(MAX), NONE);
        Watched y = of(NONE + 1, MAX);
        Due.same("floor(NONE)", y.floor(NONE), NONE);
        Due.same("floor(NONE + 1)", y.floor(NONE + 1), NONE + 1);
        Due.same("floor(MAX - 1)", y.floor(MAX - 1), NONE + 1);
        Due.same("floor(MAX)", y.floor(MAX), MAX);
        Watched z = hundreds();
        Due.same("floor(399), across two segments", z.floor(399), 300);
        Due.same("floor(799), across two halves", z.floor(799), 700);
        Due.same("floor(0), in the first cell", z.floor(0), 0);
        Due.same("floor(99), in the first cell", z.floor(99), 0);
        Due.same("floor(-1), below the first cell", z.floor(-1), NONE);
        Due.same("floor(389), in the last cell of 512", full().floor(389), 389);
        Due.same("floor(MAX), in the last cell of 512", full().floor(MAX), 389);
        Due.same("floor(7), in the last cell of 16", Watched.rising(16, 8).floor(7), 7);
        Due.same("floor(399) over an empty segment", firstSegmentEmpty().floor(399), NONE);
        Due.same("floor(400) over an empty segment", firstSegmentEmpty().floor(400), 400);
    }

    private static void ceilingEdges() {
        Watched x = of(-10, 10, 20);
        Due.same("ceiling(21)", x.ceiling(21), NONE);
        Due.same("ceiling(20)", x.ceiling(20), 20);
        Due.same("ceiling(11)", x.ceiling(11), 20);
        Due.same("ceiling(10)", x.ceiling(10), 10);
        Due.same("ceiling(9)", x.ceiling(9), 10);
        Due.same("ceiling(-9)", x.ceiling(-9), 10);
        Due.same("ceiling(-10)", x.ceiling(-10), -10);
        Due.same("ceiling(NONE)", x.ceiling(NONE), -10);
        Due.same("ceiling(MAX)", x.ceiling(MAX), NONE);
        Due.same("ceiling(NONE) of a new object", new Watched(16).ceiling(NONE), NONE);
        Watched y = of(NONE + 1, MAX);
        Due.same("ceiling(NONE)", y.ceiling(NONE), NONE + 1);
        Due.same("ceiling(NONE + 1)", y.ceiling(NONE + 1), NONE + 1);
        Due.same("ceiling(NONE + 2)", y.ceiling(NONE + 2), MAX);
        Due.same("ceiling(MAX)", y.ceiling(MAX), MAX);
        Watched z = hundreds();
        Due.same("ceiling(301), across two segments", z.ceiling(301), 400);
        Due.same("ceiling(701), across two halves", z.ceiling(701), 800);
        Due.same("ceiling(-1), in the first cell", z.ceiling(-1), 0);
        Due.same("ceiling(0), in the first cell", z.ceiling(0), 0);
        Due.same("ceiling(389), in the last cell of 512", full().ceiling(389), 389);
        Due.same("ceiling(390), above the last cell of 512", full().ceiling(390), NONE);
        Due.same("ceiling(7), in the last cell of 16", Watched.rising(16, 8).ceiling(7), 7);
        Due.same("ceiling(0) over an empty segment", firstSegmentEmpty().ceiling(0), 400);
        Due.same("ceiling(NONE) over an empty segment", firstSegmentEmpty().ceiling(NONE), 400);
        Due.same("ceiling(1301)", firstSegmentEmpty().ceiling(1301), NONE);
    }

    private static void selectEdges() {
        Watched x = of(30, 10, 20);
        int[] bad = {-1, -2, 3, 4, 16, 512, LOW, HIGH};
        for (int k : bad) {
            Due.same("select(" + k + ")", x.select(k), NONE);
        }
        Due.same("select(0)", x.select(0), 10);
        Due.same("select(1)", x.select(1), 20);
        Due.same("select(2)", x.select(2), 30);
        Due.same("select(0) of a new object", new Watched(16).select(0), NONE);
        Due.same("select(-1) of a new object", new Watched(16).select(-1), NONE);
        Watched y = full();
        Due.same("select(0) of a full store", y.select(0), 0);
        Due.same("select(389) of a full store", y.select(389), 389);
        Due.same("select(390) of a full store", y.select(390), NONE);
        Due.same("select(-1) of a full store", y.select(-1), NONE);
        x.remove(10);
        Due.same("select(0) when 10 is gone", x.select(0), 20);
        Due.same("select(2) when 10 is gone", x.select(2), NONE);
    }

    private static void countEdges() {
        Watched x = of(10, 20, 30, 40);
        Due.same("count(20, 30)", x.count(20, 30), 2);
        Due.same("count(19, 31)", x.count(19, 31), 2);
        Due.same("count(21, 30)", x.count(21, 30), 1);
        Due.same("count(20, 29)", x.count(20, 29), 1);
        Due.same("count(21, 29)", x.count(21, 29), 0);
        Due.same("count(20, 20)", x.count(20, 20), 1);
        Due.same("count(25, 25)", x.count(25, 25), 0);
        Due.same("count(30, 20)", x.count(30, 20), 0);
        Due.same("count(MAX, NONE)", x.count(MAX, NONE), 0);
        Due.same("count(NONE, MAX)", x.count(NONE, MAX), 4);
        Due.same("count(NONE, NONE)", x.count(NONE, NONE), 0);
        Due.same("count(NONE, 10)", x.count(NONE, 10), 1);
        Due.same("count(NONE, 9)", x.count(NONE, 9), 0);
        Due.same("count(40, MAX)", x.count(40, MAX), 1);
        Due.same("count(41, MAX)", x.count(41, MAX), 0);
        Watched y = of(NONE + 1, MAX);
        Due.same("count(NONE, NONE + 1)", y.count(NONE, NONE + 1), 1);
        Due.same("count(MAX, MAX)", y.count(MAX, MAX), 1);
        Due.same("count(NONE + 2, MAX - 1)", y.count(NONE + 2, MAX - 1), 0);
        Due.same("count(NONE, MAX) of a new object", new Watched(16).count(NONE, MAX), 0);
        Due.same("count(0, 99), of the first cell", hundreds().count(0, 99), 1);
        Due.same("count(389, 389), of the last cell of 512", full().count(389, 389), 1);
        Due.same("count of a full store", full().count(NONE, MAX), FULL);
    }

    private static void sumEdges() {
        Watched x = new Watched(16);
        long[] values = {1, 10, 100, 1000};
        for (int i = 0; i < 4; i++) {
            x.put(10 + 10 * i, values[i]);
        }
        Due.same("sum(20, 30)", x.sum(20, 30), 110);
        Due.same("sum(19, 31)", x.sum(19, 31), 110);
        Due.same("sum(21, 30)", x.sum(21, 30), 100);
        Due.same("sum(20, 29)", x.sum(20, 29), 10);
        Due.same("sum(21, 29)", x.sum(21, 29), 0);
        Due.same("sum(20, 20)", x.sum(20, 20), 10);
        Due.same("sum(30, 20)", x.sum(30, 20), 0);
        Due.same("sum(MAX, NONE)", x.sum(MAX, NONE), 0);
        Due.same("sum(NONE, MAX)", x.sum(NONE, MAX), 1111);
        Due.same("sum(NONE, NONE)", x.sum(NONE, NONE), 0);
        Due.same("sum(NONE, 10)", x.sum(NONE, 10), 1);
        Due.same("sum(40, MAX)", x.sum(40, MAX), 1000);
        x.remove(40);
        Due.same("sum(40, MAX) when 40 is gone", x.sum(40, MAX), 0);
        Due.same("sum of a new object", new Watched(16).sum(NONE, MAX), 0);
        Watched y = hundreds();
        y.put(0, 7);
        Due.same("sum(-1, 50), of the first cell", y.sum(-1, 50), 7);
        Due.same("sum(NONE, MAX), of all cells", y.sum(NONE, MAX), 7 + 15 * 8);
        Watched z = full();
        z.put(389, 1_000_000);
        Due.same("sum(389, MAX), of the last cell of 512", z.sum(389, MAX), 1_000_000);
        // Six rows of 64 with the values 0 .. 63, and 0 .. 4 in the seventh.
        Due.same("sum(NONE, MAX), of 512 cells", z.sum(NONE, MAX), 6 * 2016 + 10 + 1_000_000);
    }

    private static void sumWraps() {
        Watched x = new Watched(16);
        x.put(1, MAX);
        Due.same("MAX", x.sum(1, 9), MAX);
        x.put(2, 1);
        Due.same("MAX + 1", x.sum(1, 9), NONE);
        x.put(2, 2);
        Due.same("MAX + 2", x.sum(1, 9), NONE + 1);
        x.put(2, MAX);
        Due.same("MAX + MAX", x.sum(1, 9), -2);
        Watched y = new Watched(16);
        y.put(1, NONE);
        Due.same("NONE", y.sum(1, 9), NONE);
        y.put(2, -1);
        Due.same("NONE - 1", y.sum(1, 9), MAX);
        y.put(2, NONE);
        Due.same("NONE + NONE", y.sum(1, 9), 0);
    }

    private static void sizeEdges() {
        Watched x = new Watched(16);
        Due.same("size() of a new object", x.size(), 0);
        x.put(1, 1);
        Due.same("size() with one key", x.size(), 1);
        x.put(1, 2);
        Due.same("size() after a put of what is there", x.size(), 1);
        x.put(NONE, 2);
        Due.same("size() after a refused put", x.size(), 1);
        x.remove(2);
        Due.same("size() after a refused remove", x.size(), 1);
        x.remove(1);
        Due.same("size() when it is gone", x.size(), 0);
        x.fill(0, 1, 64);
        Due.same("size() after a fill", x.size(), 64);
        x.fill(0, 1, 65);
        x.drop(0, 65);
        Due.same("size() after a refused fill and drop", x.size(), 64);
        x.drop(1, 64);
        Due.same("size() after a drop", x.size(), 1);
        Due.same("size() of a full store", full().size(), FULL);
    }

    // ---- promises 15 to 20

    private static void cellKeyEdges() {
        Watched x = Watched.rising(16, 8);
        int[] bad = {-1, -2, 16, 17, 511, 512, LOW, HIGH};
        for (int i : bad) {
            Due.same("cellKey(" + i + ") of 16", x.cellKey(i), NONE);
        }
        Due.same("cellKey(7), empty", x.cellKey(7), NONE);
        Due.same("cellKey(8), the first key", x.cellKey(8), 0);
        Due.same("cellKey(15), the last cell", x.cellKey(15), 7);
        x.put(8, 1);
        Due.same("cellKey(0), the first cell", x.cellKey(0), 0);
        Due.same("cellKey(15), empty now", x.cellKey(15), NONE);
        Watched y = full();
        Due.same("cellKey(511), the last cell", y.cellKey(511), 389);
        int[] worse = {-1, 512, 513, 1024, LOW, HIGH};
        for (int i : worse) {
            Due.same("cellKey(" + i + ") of 512", y.cellKey(i), NONE);
        }
    }

    private static void cellKeyAfterHalving() {
        Watched x = Watched.justDoubled(3);
        x.drop(0, 27);
        Due.same("cells()", x.cells(), 16);
        for (int i = 0; i < 70; i++) {
            Due.same("cellKey(" + i + ") when all are gone", x.cellKey(i), NONE);
        }
        Watched y = Watched.justDoubled(2);
        Due.same("cellKey(29) of 32", y.cellKey(29), 13);
        y.drop(0, 9);
        Due.same("cells()", y.cells(), 16);
        for (int i = 16; i < 70; i++) {
            Due.same("cellKey(" + i + ") of 16", y.cellKey(i), NONE);
        }
        y.put(14, 1);
        Due.same("size()", y.size(), 6);
        y.fill(20, 1, 9);
        Due.same("cells() when it doubled again", y.cells(), 32);
        Due.same("size()", y.size(), 15);
        Due.same("the greatest", y.select(14), 28);
    }

    private static void placeEdges() {
        for (int levels = 1; levels <= 6; levels++) {
            Watched x = Watched.justDoubled(levels);
            int segments = 1 << levels;
            Due.same("place(1) of " + segments, x.place(1), 0);
            Due.same("place(M - 1) of " + segments, x.place(segments - 1), segments - 2);
            int[] bad = {0, -1, -2, segments, segments + 1, 2 * segments, LOW, HIGH};
            for (int k : bad) {
                Due.same("place(" + k + ") of " + segments, x.place(k), -1);
            }
        }
        Watched y = Watched.justDoubled(2);
        y.drop(0, 14);
        Due.same("place(2) when N halved", y.place(2), -1);
    }

    private static void borneEdges() {
        for (int levels = 2; levels <= 6; levels++) {
            Watched x = Watched.justDoubled(levels);
            int segments = 1 << levels;
            long[] cells = x.cellsSeen();
            Due.same("the first place of " + segments, x.borne(0), greatest(cells, 0, segments / 2));
            Due.same("the last place of " + segments, x.borne(segments - 2), greatest(cells, segments - 2, segments - 1));
            int[] bad = {-1, -2, segments - 1, segments, 2 * segments, LOW, HIGH};
            for (int place : bad) {
                Due.same("borne(" + place + ") of " + segments, x.borne(place), NONE);
            }
        }
        Watched y = Watched.rising(16, 9);
        Due.same("borne(0) of 16", y.borne(0), 4);
        Due.same("borne(1) of 16", y.borne(1), NONE);
        Due.same("borne(-1) of 16", y.borne(-1), NONE);
        y.drop(0, 64);
        Due.same("borne(0) when all are gone", y.borne(0), NONE);
        Watched z = Watched.justDoubled(2);
        Due.same("borne(2) of 32", z.borne(2), 10);
        z.drop(0, 9);
        Due.same("borne(2) when N halved", z.borne(2), NONE);
    }

    private static long greatest(long[] cells, int segment, int end) {
        long greatest = NONE;
        for (int i = 8 * segment; i < 8 * end; i++) {
            greatest = Math.max(greatest, cells[i]);
        }
        return greatest;
    }

    private static void blockEdges() {
        // 32 cells: segment 2, of the key 1000, has the addresses 20 .. 27, the nodes 1 and 3 the places 0 and 2.
        Watched x = hundreds();
        Due.same("blocks of 2: 0, 1, 10 .. 13", x.touched(1000, 2), 6);
        Due.same("blocks of 3: 0, 6 .. 9", x.touched(1000, 3), 5);
        Due.same("blocks of 4: 0, 5, 6", x.touched(1000, 4), 3);
        Due.same("blocks of 5: 0, 4, 5", x.touched(1000, 5), 3);
        Due.same("blocks of 7: 0, 2, 3", x.touched(1000, 7), 3);
        Due.same("blocks of 10: 0, 2", x.touched(1000, 10), 2);
        Due.same("blocks of 20: 0, 1", x.touched(1000, 20), 2);
        Due.same("blocks of 21: 0, 1", x.touched(1000, 21), 2);
        Due.same("blocks of 27: 0, 1", x.touched(1000, 27), 2);
        Due.same("blocks of 28: 0", x.touched(1000, 28), 1);
        // Segment 0, of the key 100, has the addresses 4 .. 11, its nodes the places 0 and 1.
        Due.same("blocks of 2: 0, 2 .. 5", x.touched(100, 2), 5);
        Due.same("blocks of 4: 0, 1, 2", x.touched(100, 4), 3);
        Due.same("blocks of 5: 0, 1, 2", x.touched(100, 5), 3);
        Due.same("blocks of 6: 0, 1", x.touched(100, 6), 2);
        Due.same("blocks of 11: 0, 1", x.touched(100, 11), 2);
        Due.same("blocks of 12: 0", x.touched(100, 12), 1);
        Watched y = full();
        Due.same("blocks of 575 in 512 cells", y.touched(MAX, 575), 2);
        Due.same("blocks of 576 in 512 cells", y.touched(MAX, 576), 1);
    }

    private static void touchedOneByOne() {
        for (int levels = 1; levels <= 6; levels++) {
            Watched x = Watched.justDoubled(levels);
            long[] keys = {NONE, 0, 5, 50, 150, MAX};
            for (long key : keys) {
                Due.same("touched(" + key + ", 1) of " + levels + " levels", x.touched(key, 1), levels + 8);
            }
        }
        // 128 cells: the nodes 1, 2, 4, 8 at 0, 1, 3, 4 and the nodes 1, 3, 7, 15 at 0, 2, 12, 14.
        Watched y = Watched.justDoubled(4);
        Due.same("touched(0, 2): 0, 1, 2 and 8 .. 11", y.touched(0, 2), 7);
        Due.same("touched(MAX, 2): 0, 1, 6, 7 and 68 .. 71", y.touched(MAX, 2), 8);
        Due.same("touched(0, 5): 0 and 3, 4", y.touched(0, 5), 3);
        Due.same("touched(MAX, 15): 0 and 9", y.touched(MAX, 15), 2);
        Due.same("touched(MAX, 14): 0, 1 and 9, 10", y.touched(MAX, 14), 4);
    }

    private static void blockSizes() {
        Watched[] stores = {new Watched(16), Watched.rising(16, 9), full()};
        int[] bad = {0, -1, -2, 1025, 1026, 2048, LOW, HIGH};
        for (Watched x : stores) {
            for (int b : bad) {
                Due.same("touched(3, " + b + ")", x.touched(3, b), -1);
                Due.same("touched(NONE, " + b + ")", x.touched(NONE, b), -1);
            }
            Due.same("touched(3, 1)", x.touched(3, 1), x == stores[2] ? 14 : 9);
            Due.same("touched(3, 1023)", x.touched(3, 1023), 1);
            Due.same("touched(3, 1024)", x.touched(3, 1024), 1);
            Due.same("touched(NONE, 1024)", x.touched(NONE, 1024), 1);
        }
    }

    private static void windowLatest() {
        Watched x = Watched.rising(16, 8);
        Due.same("window() of a segment", x.window(), 0);
        x.put(8, 1);
        Due.same("window() of two", x.window(), 1);
        x.put(8, 2);
        Due.same("window() after a put of what is there", x.window(), 1);
        x.put(NONE, 2);
        x.remove(100);
        x.fill(0, 1, 65);
        x.drop(0, -1);
        x.drop(100, 5);
        x.fill(3, 1, 0);
        Due.same("window() after calls that spread nothing", x.window(), 1);
        x.remove(8);
        Due.same("window() after a remove that spreads a segment", x.window(), 0);
        // The five keys of segment 0 stay; when segment 1 is emptied, both are spread.
        x.drop(5, 2);
        Due.same("window() of a segment", x.window(), 0);
        x.remove(7);
        Due.same("window() of two, by a remove", x.window(), 1);
        Due.same("the cells", x.layout(), "0:0 3:1 6:2 9:3 12:4");
        x.drop(3, 1);
        Due.same("window() of a segment", x.window(), 0);
        x.remove(4);
        Due.same("window() when too few are left for any window", x.window(), 0);
        Due.same("the cells", x.layout(), "0:0 3:1 6:2");
        Watched y = Watched.rising(16, 9);
        y.drop(5, 4);
        Due.same("window() of two, by a drop", y.window(), 1);
        y.drop(3, 2);
        Due.same("the cells", y.layout(), "0:0 3:1 6:2");
        Due.same("window() of the spread before", y.window(), 0);
    }

    private static void windowWhenNChanged() {
        for (int levels = 2; levels <= 6; levels++) {
            int keys = Watched.keysThatDouble(levels);
            Watched x = Watched.rising(16, keys);
            Due.same("cells()", x.cells(), 8 << levels);
            Due.same("window() when N doubled", x.window(), levels);
            int cells = x.cells();
            for (int key = 0; key < keys && cells == 8 << levels; key++) {
                x.remove(key);
                cells = x.cells();
            }
            Due.same("cells()", cells, 4 << levels);
            Due.same("window() when N halved", x.window(), levels - 1);
        }
    }

    private static void windowBeforeTheFirst() {
        int[] wanted = {16, 32, 64, 5};
        for (int cells : wanted) {
            Watched x = new Watched(cells);
            Due.same("window() of a new object", x.window(), -1);
            x.put(NONE, 1);
            x.remove(1);
            x.fill(1, 1, 0);
            x.fill(NONE, 1, 5);
            x.fill(1, 1, 65);
            x.drop(NONE, 64);
            x.touched(1, 8);
            Due.same("window() after calls that spread nothing", x.window(), -1);
            x.put(1, 1);
            Due.same("window() after the first put", x.window(), 0);
            x.remove(1);
            Due.same("window() when the key is gone", x.window(), 0);
        }
        Watched y = new Watched(16);
        y.fill(1, 1, 1);
        Due.same("window() after a first fill", y.window(), 0);
    }

    private static void movedInPlace() {
        Watched x = Watched.rising(16, 7);
        Due.same("seven keys", x.layout(), "8:0 9:1 10:2 11:3 12:4 13:5 14:6");
        long moved = x.moved();
        x.put(7, 1);
        Due.same("eight keys, seven where they were", x.layout(), "8:0 9:1 10:2 11:3 12:4 13:5 14:6 15:7");
        Due.same("moved()", x.moved(), moved + 8);
        x.remove(7);
        Due.same("seven keys where they were", x.layout(), "8:0 9:1 10:2 11:3 12:4 13:5 14:6");
        Due.same("moved()", x.moved(), moved + 8 + 7);
        Watched y = new Watched(16);
        y.put(1, 1);
        y.put(2, 1);
        Due.same("moved()", y.moved(), 3);
        y.remove(2);
        Due.same("a key where it was", y.layout(), "8:1");
        Due.same("moved()", y.moved(), 4);
    }

    private static void movedInAll() {
        Watched x = new Watched(16);
        Due.same("moved() of a new object", x.moved(), 0);
        x.fill(0, 1, 8);
        Due.same("moved() after eight", x.moved(), 36);
        x.put(3, 9);
        x.put(NONE, 9);
        x.remove(50);
        x.fill(0, 1, 8);
        x.fill(9, 1, 65);
        x.drop(0, 65);
        Due.same("moved() after calls that spread nothing", x.moved(), 36);
        x.put(8, 1);
        Due.same("moved() after nine in 16 cells", x.moved(), 45);
        x.fill(9, 1, 4);
        Due.same("moved() after four in a segment of 4", x.moved(), 45 + 5 + 6 + 7 + 8);
        x.put(13, 1);
        Due.same("moved() after doubling", x.moved(), 71 + 14);
        x.remove(13);
        Due.same("moved() after a remove from a segment of 3", x.moved(), 85 + 2);
        Watched y = of(1);
        y.remove(1);
        Due.same("moved() when the only key is gone", y.moved(), 1);
        // Eight keys come with 1 + .. + 8 moves, and go with 7 + .. + 1.
        Watched z = new Watched(16);
        for (int turn = 0; turn < 250; turn++) {
            z.fill(0, 1, 8);
            z.drop(0, 8);
        }
        Due.same("moved() after 250 turns", z.moved(), 250 * (36 + 28));
    }
}
