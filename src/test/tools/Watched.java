import java.util.ArrayList;
import java.util.List;
import java.util.function.ToLongFunction;

/**
 * A store that remembers the calls made on it. Looking at its state is done on copies, new objects
 * that get the same calls first: so looking changes nothing, and no object is ever used for more
 * than the 512 calls that the document promises anything about.
 */
final class Watched {
    static final int MOST_CALLS = 512;
    static final long NONE = Long.MIN_VALUE;
    private static final int[] KEYS_THAT_DOUBLE = {0, 14, 27, 49, 100, 198};

    private final int wanted;
    private final GappedStore store;
    private final List<ToLongFunction<GappedStore>> calls = new ArrayList<>();
    private GappedStore copy;
    private int callsOfCopy;

    Watched(int wanted) {
        this.wanted = wanted;
        store = new GappedStore(wanted);
    }

    /** A store with the keys 0 .. n - 1, put in this order. */
    static Watched rising(int wanted, int n) {
        Watched x = new Watched(wanted);
        x.putRow(0, 1, n);
        return x;
    }

    /** How many rising keys it takes till the last one doubles the cells to 8 * 2^levels. */
    static int keysThatDouble(int levels) {
        return KEYS_THAT_DOUBLE[levels - 1];
    }

    /** A store of that many rising keys: its cells have just been doubled. */
    static Watched justDoubled(int levels) {
        return rising(16, keysThatDouble(levels));
    }

    /** A row of any length, by as many calls of fill as it takes. */
    void putRow(long from, long step, int n) {
        for (int done = 0; done < n; done += 64) {
            fill(from + done * step, step, Math.min(64, n - done));
        }
    }

    private long call(ToLongFunction<GappedStore> what) {
        if (calls.size() == MOST_CALLS) {
            throw new IllegalStateException("a test uses an object after its 512th call");
        }
        calls.add(what);
        copy = null;
        return what.applyAsLong(store);
    }

    private long look(ToLongFunction<GappedStore> question) {
        if (copy == null || callsOfCopy == MOST_CALLS) {
            makeCopy();
        }
        callsOfCopy++;
        return question.applyAsLong(copy);
    }

    private void makeCopy() {
        if (calls.size() == MOST_CALLS) {
            throw new IllegalStateException("a test looks at an object after its 512th call");
        }
        copy = new GappedStore(wanted);
        for (ToLongFunction<GappedStore> what : calls) {
            what.applyAsLong(copy);
        }
        callsOfCopy = calls.size();
    }

    // ---- the face

    int put(long key, long v) {
        return (int) call(s -> s.put(key, v));
    }

    int fill(long from, long step, int n) {
        return (int) call(s -> s.fill(from, step, n));
    }

    boolean remove(long key) {
        return call(s -> s.remove(key) ? 1 : 0) == 1;
    }

    int drop(long from, int n) {
        return (int) call(s -> s.drop(from, n));
    }

    boolean has(long key) {
        return call(s -> s.has(key) ? 1 : 0) == 1;
    }

    long get(long key) {
        return call(s -> s.get(key));
    }

    long floor(long key) {
        return call(s -> s.floor(key));
    }

    long ceiling(long key) {
        return call(s -> s.ceiling(key));
    }

    long select(int k) {
        return call(s -> s.select(k));
    }

    int count(long low, long high) {
        return (int) call(s -> s.count(low, high));
    }

    long sum(long low, long high) {
        return call(s -> s.sum(low, high));
    }

    int size() {
        return (int) call(GappedStore::size);
    }

    int cells() {
        return (int) call(GappedStore::cells);
    }

    long cellKey(int i) {
        return call(s -> s.cellKey(i));
    }

    int place(int k) {
        return (int) call(s -> s.place(k));
    }

    long borne(int place) {
        return call(s -> s.borne(place));
    }

    int touched(long key, int b) {
        return (int) call(s -> s.touched(key, b));
    }

    int window() {
        return (int) call(GappedStore::window);
    }

    long moved() {
        return call(GappedStore::moved);
    }

    // ---- looking, which costs the store no call

    /** The key of each cell, NONE for an empty one. */
    long[] cellsSeen() {
        long[] seen = new long[(int) look(GappedStore::cells)];
        for (int i = 0; i < seen.length; i++) {
            int cell = i;
            seen[i] = look(s -> s.cellKey(cell));
        }
        return seen;
    }

    /** What is borne at each place, and at the first two that are no places. */
    long[] borneSeen() {
        long[] seen = new long[(int) look(GappedStore::cells) / 8 + 1];
        for (int i = 0; i < seen.length; i++) {
            int place = i;
            seen[i] = look(s -> s.borne(place));
        }
        return seen;
    }

    long valueSeen(long key) {
        return look(s -> s.get(key));
    }

    int windowSeen() {
        return (int) look(GappedStore::window);
    }

    long movedSeen() {
        return look(GappedStore::moved);
    }

    int sizeSeen() {
        return (int) look(GappedStore::size);
    }

    /** Each full cell as cell:key. */
    String layout() {
        return layout(0, Integer.MAX_VALUE);
    }

    /** Likewise, of the cells from first on and before end. */
    String layout(int first, int end) {
        StringBuilder text = new StringBuilder();
        long[] seen = cellsSeen();
        for (int i = first; i < seen.length && i < end; i++) {
            if (seen[i] != NONE) {
                text.append(text.length() == 0 ? "" : " ").append(i).append(':').append(seen[i]);
            }
        }
        return text.toString();
    }

    /** All that can be seen of the state. */
    String state() {
        StringBuilder text = new StringBuilder();
        long[] seen = cellsSeen();
        for (int i = 0; i < seen.length; i++) {
            if (seen[i] != NONE) {
                text.append(i).append(':').append(seen[i]).append('=').append(valueSeen(seen[i])).append(' ');
            }
        }
        return text.append("N ").append(seen.length).append(" size ").append(sizeSeen())
                .append(" window ").append(windowSeen()).append(" moved ").append(movedSeen()).toString();
    }
}
