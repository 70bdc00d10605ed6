import java.util.ArrayList;
import java.util.Arrays;
import java.util.HashSet;
import java.util.List;
import java.util.Map;
import java.util.Set;
import java.util.TreeMap;

/**
 * Long runs of calls on a store and on a model that follows the document word by word: every answer
 * is compared, and now and then all that can be seen of the state.
 */
public final class ModelTest {
    private static final long NONE = Long.MIN_VALUE;
    /** Less than the 512 calls that are promised, so that the state can still be looked at. */
    private static final int CALLS = 480;
    private static final int RUNS = 400;
    private static final int CALLS_BETWEEN_LOOKS = 60;

    /** The document's terms, each made anew from the cells whenever it is needed. */
    private static final class Model {
        final int least;
        final TreeMap<Long, Long> values = new TreeMap<>();
        Long[] cells;
        int window = -1;
        long moved = 0;

        Model(int wanted) {
            least = wanted == 16 || wanted == 32 || wanted == 64 ? wanted : 16;
            cells = new Long[least];
        }

        int levels() {
            int levels = 0;
            while (8 << levels < cells.length) {
                levels++;
            }
            return levels;
        }

        List<Long> keysOf(int first, int width) {
            List<Long> found = new ArrayList<>();
            for (int i = first; i < first + width; i++) {
                if (cells[i] != null) {
                    found.add(cells[i]);
                }
            }
            return found;
        }

        void spread(List<Long> keys, int first, int height) {
            int width = 8 << height;
            Arrays.fill(cells, first, first + width, null);
            for (int i = 0; i < keys.size(); i++) {
                cells[first + Math.floorDiv(i * width, keys.size())] = keys.get(i);
            }
            window = height;
            moved += keys.size();
        }

        int firstOf(int segment, int height) {
            int begin = segment;
            while (begin % (1 << height) != 0) {
                begin--;
            }
            return 8 * begin;
        }

        Long bears(int node) {
            List<Long> below = new ArrayList<>();
            keysUnder(2 * node, below);
            return below.isEmpty() ? null : below.get(below.size() - 1);
        }

        void keysUnder(int node, List<Long> found) {
            int segments = cells.length / 8;
            if (node >= segments) {
                found.addAll(keysOf(8 * (node - segments), 8));
            } else {
                keysUnder(2 * node, found);
                keysUnder(2 * node + 1, found);
            }
        }

        /** The nodes looked at, and last the segment reached. */
        List<Integer> path(long key) {
            List<Integer> path = new ArrayList<>();
            int segments = cells.length / 8;
            int node = 1;
            while (node < segments) {
                path.add(node);
                Long bears = bears(node);
                node = bears != null && bears >= key ? 2 * node : 2 * node + 1;
            }
            path.add(node - segments);
            return path;
        }

        int segmentFor(long key) {
            List<Integer> path = path(key);
            return path.get(path.size() - 1);
        }

        int put(long key, long v) {
            if (key == NONE) {
                return -1;
            }
            if (values.containsKey(key)) {
                values.put(key, v);
                return 0;
            }
            int t = levels();
            int segment = segmentFor(key);
            for (int h = 0; h <= t; h++) {
                int width = 8 << h;
                List<Long> keys = keysOf(firstOf(segment, h), width);
                keys.add(key);
                if (keys.size() <= Math.floorDiv(width * (4 * t - h), 4 * t)) {
                    values.put(key, v);
                    keys.sort(null);
                    spread(keys, firstOf(segment, h), h);
                    return 1;
                }
            }
            if (cells.length == 512) {
                return -1;
            }
            values.put(key, v);
            cells = new Long[2 * cells.length];
            spread(new ArrayList<>(values.keySet()), 0, t + 1);
            return 1;
        }

        boolean remove(long key) {
            if (!values.containsKey(key)) {
                return false;
            }
            int cell = Arrays.asList(cells).indexOf(key);
            cells[cell] = null;
            values.remove(key);
            int t = levels();
            for (int h = 0; h <= t; h++) {
                int width = 8 << h;
                int first = firstOf(cell / 8, h);
                List<Long> keys = keysOf(first, width);
                if (keys.size() >= -Math.floorDiv(-width * (t + h), 8 * t)) {
                    spread(keys, first, h);
                    return true;
                }
            }
            if (cells.length > least) {
                cells = new Long[cells.length / 2];
                spread(new ArrayList<>(values.keySet()), 0, t - 1);
            }
            return true;
        }

        int fill(long from, long step, int n) {
            if (n < 0 || n > 64) {
                return -1;
            }
            int fresh = 0;
            long key = from;
            for (int i = 0; i < n; i++) {
                int answer = put(key, i);
                if (answer < 0) {
                    break;
                }
                fresh += answer;
                key += step;
            }
            return fresh;
        }

        int drop(long from, int n) {
            if (n < 0 || n > 64) {
                return -1;
            }
            int gone = 0;
            while (gone < n && values.ceilingKey(from) != null) {
                remove(values.ceilingKey(from));
                gone++;
            }
            return gone;
        }

        List<Integer> nodesByPlace() {
            List<Integer> order = new ArrayList<>();
            layOut(1, levels(), order);
            return order;
        }

        static void layOut(int root, int height, List<Integer> order) {
            if (height == 1) {
                order.add(root);
                return;
            }
            int top = height - height / 2;
            layOut(root, top, order);
            for (int i = 0; i < 1 << top; i++) {
                layOut((root << top) + i, height - top, order);
            }
        }

        int touched(long key, int b) {
            if (b < 1 || b > 1024) {
                return -1;
            }
            List<Integer> order = nodesByPlace();
            List<Integer> path = path(key);
            Set<Integer> blocks = new HashSet<>();
            for (int node : path.subList(0, path.size() - 1)) {
                blocks.add(order.indexOf(node) / b);
            }
            for (int i = 0; i < 8; i++) {
                blocks.add((cells.length / 8 + 8 * path.get(path.size() - 1) + i) / b);
            }
            return blocks.size();
        }

        long select(int k) {
            return k < 0 || k >= values.size() ? NONE : new ArrayList<>(values.keySet()).get(k);
        }

        long cellKey(int i) {
            return i < 0 || i >= cells.length ? NONE : orNone(cells[i]);
        }

        long borne(int place) {
            List<Integer> order = nodesByPlace();
            return place < 0 || place >= order.size() ? NONE : orNone(bears(order.get(place)));
        }

        Map<Long, Long> range(long low, long high) {
            return low > high ? new TreeMap<>() : values.subMap(low, true, high, true);
        }

        long sum(long low, long high) {
            long total = 0;
            for (long v : range(low, high).values()) {
                total += v;
            }
            return total;
        }
    }

    private static long seed;
    private static String told;

    private static int draw(int bound) {
        seed = seed * 6364136223846793005L + 1442695040888963407L;
        return (int) Math.floorMod(seed >>> 33, (long) bound);
    }

    private static void due(String what, long got, long want) {
        Due.about(told);
        Due.same(what, got, want);
    }

    private static long orNone(Long key) {
        return key == null ? NONE : key;
    }

    private static int flag(boolean answer) {
        return answer ? 1 : 0;
    }

    /** Each kind of run draws its keys from other parts of the longs, so that runs meet, crowd and wrap. */
    private static long drawKey(int kind) {
        switch (kind) {
            case 0: return draw(40);
            case 1: return draw(700) - 350;
            case 2: return NONE + draw(300);
            case 3: return Long.MAX_VALUE - draw(300);
            case 4: return 1000L * draw(6) + draw(90);
            default: return (long) draw(1 << 30) * draw(1 << 30) * (draw(2) * 2 - 1) * 4;
        }
    }

    private static int drawLength() {
        switch (draw(12)) {
            case 0: return -1;
            case 1: return 65;
            case 2: return 64;
            case 3: return 0;
            default: return draw(12);
        }
    }

    private static int drawBlock() {
        int[] sizes = {-1, 0, 1, 2, 3, 4, 5, 7, 8, 16, 31, 64, 100, 1024, 1025};
        return draw(2) == 0 ? sizes[draw(sizes.length)] : 1 + draw(1024);
    }

    /** Runs swing between growing and shrinking, so that the array doubles and halves over and over. */
    private static void change(Watched x, Model m, int kind, boolean growing) {
        int roll = draw(10);
        boolean adds = growing ? roll < 8 : roll < 2;
        boolean many = draw(4) == 0;
        long key = drawKey(kind);
        if (adds && many) {
            long step = draw(4) == 0 ? drawKey(5) : draw(7) - 3;
            int n = drawLength();
            due("fill(" + key + ", " + step + ", " + n + ")", x.fill(key, step, n), m.fill(key, step, n));
        } else if (adds) {
            long v = drawKey(5);
            due("put(" + key + ", " + v + ")", x.put(key, v), m.put(key, v));
        } else if (many) {
            int n = drawLength();
            due("drop(" + key + ", " + n + ")", x.drop(key, n), m.drop(key, n));
        } else {
            Long there = draw(3) == 0 ? null : m.values.ceilingKey(key);
            long gone = there == null ? key : there;
            due("remove(" + gone + ")", flag(x.remove(gone)), flag(m.remove(gone)));
        }
    }

    private static void ask(Watched x, Model m, int kind) {
        if (draw(2) == 0) {
            askForKeys(x, m, draw(6) == 0 ? NONE : drawKey(kind), drawKey(kind));
        } else {
            askForCells(x, m, drawKey(kind), draw(4) == 0 ? draw(700) - 100 : draw(m.cells.length));
        }
    }

    private static void askForKeys(Watched x, Model m, long key, long other) {
        switch (draw(7)) {
            case 0: due("has(" + key + ")", flag(x.has(key)), flag(m.values.containsKey(key))); break;
            case 1: due("get(" + key + ")", x.get(key), m.values.getOrDefault(key, 0L)); break;
            case 2: due("floor(" + key + ")", x.floor(key), orNone(m.values.floorKey(key))); break;
            case 3: due("ceiling(" + key + ")", x.ceiling(key), orNone(m.values.ceilingKey(key))); break;
            case 4: due("count(" + key + ", " + other + ")", x.count(key, other), m.range(key, other).size()); break;
            case 5: due("sum(" + key + ", " + other + ")", x.sum(key, other), m.sum(key, other)); break;
            default:
                int b = drawBlock();
                due("touched(" + key + ", " + b + ")", x.touched(key, b), m.touched(key, b));
        }
    }

    private static void askForCells(Watched x, Model m, long key, int i) {
        switch (draw(8)) {
            case 0: due("select(" + i + ")", x.select(i), m.select(i)); break;
            case 1: due("size()", x.size(), m.values.size()); break;
            case 2: due("cells()", x.cells(), m.cells.length); break;
            case 3: due("cellKey(" + i + ")", x.cellKey(i), m.cellKey(i)); break;
            case 4: due("place(" + i / 7 + ")", x.place(i / 7), m.nodesByPlace().indexOf(i / 7)); break;
            case 5: due("borne(" + i / 7 + ")", x.borne(i / 7), m.borne(i / 7)); break;
            case 6: due("window()", x.window(), m.window); break;
            default: due("moved()", x.moved(), m.moved);
        }
    }

    private static void lookAtAll(Watched x, Model m) {
        long[] cells = x.cellsSeen();
        due("cells()", cells.length, m.cells.length);
        for (int i = 0; i < Math.min(cells.length, m.cells.length); i++) {
            due("cellKey(" + i + ")", cells[i], m.cellKey(i));
        }
        long[] borne = x.borneSeen();
        for (int place = 0; place < borne.length; place++) {
            due("borne(" + place + ")", borne[place], m.borne(place));
        }
        for (Map.Entry<Long, Long> entry : m.values.entrySet()) {
            due("get(" + entry.getKey() + ")", x.valueSeen(entry.getKey()), entry.getValue());
        }
        due("size()", x.sizeSeen(), m.values.size());
        due("window()", x.windowSeen(), m.window);
        due("moved()", x.movedSeen(), m.moved);
    }

    /** Answers the most cells that the run had. */
    private static int run(int number) {
        int[] wanted = {16, 32, 64, 0, 48};
        int kind = number % 6;
        seed = 77L + number;
        int swing = 20 + draw(200);
        int questions = draw(4);
        int first = wanted[number % wanted.length];
        Watched x = new Watched(first);
        Model m = new Model(first);
        int most = 0;
        for (int call = 0; call < CALLS && Due.allRight(); call++) {
            told = "run " + number + ", call " + call;
            if (draw(4) < questions) {
                ask(x, m, kind);
            } else {
                change(x, m, kind, call / swing % 2 == 0);
            }
            if (call % CALLS_BETWEEN_LOOKS == CALLS_BETWEEN_LOOKS - 1) {
                lookAtAll(x, m);
            }
            most = Math.max(most, m.cells.length);
        }
        return most;
    }

    public static void main(String[] args) {
        int full = 0;
        for (int number = 0; number < RUNS && Due.allRight(); number++) {
            full += run(number) == 512 ? 1 : 0;
        }
        if (Due.allRight() && full < RUNS / 10) {
            Due.tell("only " + full + " runs grew to 512 cells: the runs test too little");
        }
        Due.end(RUNS + " runs are as the model's, " + full + " of them with 512 cells");
    }
}
