import java.util.ArrayList;
import java.util.Collections;
import java.util.Comparator;
import java.util.List;
import java.util.Map;
import java.util.Set;
import java.util.TreeMap;
import java.util.TreeSet;

/**
 * The whole state of a store, in the document's terms: its keys with their values, the key at hand, the
 * other key and the cursor. It makes stores that are in it, and looks whether a store is in it.
 */
final class Situation {
    /** The order of the document: by the first part in which two keys differ, the shorter one first. */
    static final Comparator<List<Long>> ORDER = (a, b) -> {
        for (int i = 0; i < Math.min(a.size(), b.size()); i++) {
            if (!a.get(i).equals(b.get(i))) {
                return Long.compare(a.get(i), b.get(i));
            }
        }
        return Integer.compare(a.size(), b.size());
    };

    private static final String ABSENT = "throws.NoSuchElementException";
    private static final int MOST_LETTERS = 24;

    // An object has 512 calls, so not every key of a full store can be looked at.
    private static final int PLACES_LOOKED_AT = 24;

    private final int sort;
    private TreeMap<List<Long>, Long> keys = new TreeMap<>(ORDER);
    private List<Long> hand;
    private List<Long> other;
    private List<Long> cursor = null;
    private Load load = null;

    /** Many keys at once; only numbers can be so many. */
    private record Load(long first, long step, int n, long value) {
    }

    private Situation(int sort) {
        this.sort = sort;
        hand = sort == 2 ? List.of() : Collections.nCopies(sort + 1, 0L);
        other = hand;
    }

    /** That of a new store. */
    static Situation ofSort(int sort) {
        return new Situation(sort);
    }

    static Situation numbers() {
        return new Situation(0);
    }

    static Situation pairs() {
        return new Situation(1);
    }

    static Situation rows() {
        return new Situation(2);
    }

    /** The bytes of a row. */
    static long[] row(String letters) {
        return letters.chars().asLongStream().toArray();
    }

    private static List<Long> key(long... parts) {
        List<Long> key = new ArrayList<>();
        for (long part : parts) {
            key.add(part);
        }
        return key;
    }

    private Situation copy() {
        Situation copy = new Situation(sort);
        copy.keys.putAll(keys);
        copy.hand = hand;
        copy.other = other;
        copy.cursor = cursor;
        copy.load = load;
        return copy;
    }

    Situation with(long value, long... parts) {
        Situation copy = copy();
        copy.keys.put(key(parts), value);
        return copy;
    }

    Situation without(long... parts) {
        Situation copy = copy();
        copy.keys.remove(key(parts));
        return copy;
    }

    Situation withoutKeys() {
        Situation copy = copy();
        copy.keys.clear();
        copy.load = null;
        return copy;
    }

    /** Has n numbers more, from the first one on. */
    Situation loaded(long first, long step, int n, long value) {
        Situation copy = copy();
        copy.load = new Load(first, step, n, value);
        for (int i = 0; i < n; i++) {
            copy.keys.put(key(first + i * step), value + i);
        }
        return copy;
    }

    Situation hand(long... parts) {
        Situation copy = copy();
        copy.hand = key(parts);
        return copy;
    }

    Situation other(long... parts) {
        Situation copy = copy();
        copy.other = key(parts);
        return copy;
    }

    /** The cursor's key need not be there. */
    Situation cursor(long... parts) {
        Situation copy = copy();
        copy.cursor = key(parts);
        return copy;
    }

    @Override
    public String toString() {
        String few = keys.size() <= PLACES_LOOKED_AT ? keys.toString() : keys.size() + " keys";
        return few + ", at hand " + hand + ", other " + other + ", cursor " + cursor;
    }

    BranchStore made() {
        BranchStore s = new BranchStore(sort);
        if (cursor != null) {
            tell(s, cursor);
            s.put(0);
            s.seek(4);
            s.clear();
        }
        Map<List<Long>, Long> loaded = load(s);
        for (Map.Entry<List<Long>, Long> due : keys.entrySet()) {
            if (!due.getValue().equals(loaded.get(due.getKey()))) {
                tell(s, due.getKey());
                s.put(due.getValue());
            }
        }
        tell(s, other);
        s.keep();
        tell(s, hand);
        return s;
    }

    private Map<List<Long>, Long> load(BranchStore s) {
        Map<List<Long>, Long> loaded = new TreeMap<>(ORDER);
        if (load == null) {
            return loaded;
        }
        s.number(load.first);
        s.load(load.step, load.n, load.value);
        for (int i = 0; i < load.n; i++) {
            List<Long> key = key(load.first + i * load.step);
            loaded.put(key, load.value + i);
            if (!keys.containsKey(key)) {
                tell(s, key);
                s.remove();
            }
        }
        return loaded;
    }

    /** Uses the store up. */
    void isThatOf(String what, BranchStore s) {
        boolean there = cursor != null && keys.containsKey(cursor);
        Check.same(what + ": there", s.there(), there);
        Check.answers(what + ": the cursor's key", cursor == null ? ABSENT : cursor, () -> keyAtCursor(s));
        Check.answers(what + ": its value", there ? keys.get(cursor) : ABSENT, s::value);
        Check.same(what + ": the tree's shape", shapeOf(s), shapeOf(made()));
        Check.same(what + ": the keys", keysOf(s), keysDue());
        s.clear();
        s.put(0);
        s.seek(4);
        Check.same(what + ": the key at hand", keyAtCursor(s), hand);
        Check.same(what + ": the other key is " + other, isTheOther(s, other), true);
    }

    private static List<Long> keyAtCursor(BranchStore s) {
        List<Long> key = new ArrayList<>();
        int length = Math.min(MOST_LETTERS + 1, s.length());
        for (int i = 0; i < length; i++) {
            key.add(s.part(i));
        }
        return key;
    }

    private static String shapeOf(BranchStore s) {
        StringBuilder shape = new StringBuilder();
        for (int what = 0; what < 8; what++) {
            shape.append(s.about(what)).append(' ');
        }
        return shape.append(s.compact()).toString();
    }

    /** All of them if they are few; else some, with the ends and those beside the key at hand. */
    private Set<Integer> placesToLookAt() {
        Set<Integer> places = new TreeSet<>();
        int stride = 1 + keys.size() / PLACES_LOOKED_AT;
        for (int k = 0; k < keys.size(); k += stride) {
            places.add(k);
        }
        int rank = keys.headMap(hand, false).size();
        for (int k : new int[] {rank - 1, rank, rank + 1, keys.size() - 1}) {
            if (k >= 0 && k < keys.size()) {
                places.add(k);
            }
        }
        return places;
    }

    private String keysOf(BranchStore s) {
        StringBuilder found = new StringBuilder().append(s.about(0)).append(':');
        for (int k : placesToLookAt()) {
            s.select(k);
            found.append(' ').append(keyAtCursor(s)).append('=').append(s.value());
        }
        return found.toString();
    }

    private String keysDue() {
        StringBuilder due = new StringBuilder().append(keys.size()).append(':');
        List<List<Long>> ordered = new ArrayList<>(keys.keySet());
        for (int k : placesToLookAt()) {
            due.append(' ').append(ordered.get(k)).append('=').append(keys.get(ordered.get(k)));
        }
        return due.toString();
    }

    /** Only the other key itself lies above the key just before it and is not above itself. */
    private boolean isTheOther(BranchStore s, List<Long> key) {
        s.clear();
        List<Long> before = keyBefore(key);
        if (before != null) {
            tell(s, before);
            s.put(0);
        }
        tell(s, key);
        s.put(0);
        return s.range() == 1;
    }

    private List<Long> keyBefore(List<Long> key) {
        int last = key.size() - 1;
        long least = sort == 2 ? 0 : Long.MIN_VALUE;
        long greatest = sort == 2 ? 255 : Long.MAX_VALUE;
        List<Long> before = new ArrayList<>(key);
        if (sort == 2) {
            if (key.isEmpty()) {
                return null;
            }
            if (key.get(last) == least) {
                return key.subList(0, last);
            }
            before.set(last, key.get(last) - 1);
            before.addAll(Collections.nCopies(MOST_LETTERS - before.size(), greatest));
            return before;
        }
        int at = last;
        while (at >= 0 && key.get(at) == least) {
            before.set(at, greatest);
            at--;
        }
        if (at < 0) {
            return null;
        }
        before.set(at, key.get(at) - 1);
        return before;
    }

    private void tell(BranchStore s, List<Long> key) {
        if (sort == 0) {
            s.number(key.get(0));
        } else if (sort == 1) {
            s.pair(key.get(0), key.get(1));
        } else {
            s.erase();
            for (long part : key) {
                s.letter((int) part);
            }
        }
    }
}
