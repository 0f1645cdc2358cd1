import java.math.BigInteger;
import java.nio.ByteBuffer;
import java.nio.charset.StandardCharsets;
import java.util.ArrayList;
import java.util.Collections;
import java.util.HashMap;
import java.util.HashSet;
import java.util.List;
import java.util.Map;
import java.util.NoSuchElementException;
import java.util.Random;
import java.util.Set;
import java.util.TreeMap;

/**
 * Runs of calls, drawn from fixed seeds, on the class and on a model that takes the document's terms word
 * by word. Every answer and every exception must be the same.
 */
public final class RandomCallsTest {
    private static final int RUNS = 900;
    private static final int CALLS = 512;
    private static final int WRONG_RUNS_TOLD = 5;

    public static void main(String[] args) {
        int wrongRuns = 0;
        for (int seed = 0; seed < RUNS && wrongRuns < WRONG_RUNS_TOLD; seed++) {
            if (!new Run(seed).isRight()) {
                wrongRuns++;
            }
        }
        Check.end();
    }

    /** One object's life. */
    private static final class Run {
        private static final long[] NEAR_EDGES = {
            0, 1, -1, 255, 256, 65535, 65536, -256, Long.MAX_VALUE, Long.MIN_VALUE, Long.MAX_VALUE - 1, Long.MIN_VALUE + 1,
        };
        private static final int[] FEW_BYTES = {0, 0, 1, 97, 254, 255};

        private final Random random;
        private final int seed;
        private final int sort;
        private final int manner;
        private final BranchStore store;
        private final Model model;

        Run(int seed) {
            this.seed = seed;
            random = new Random(seed);
            int told = seed % 7 - 3;
            sort = Math.floorMod(told, 3);
            manner = random.nextInt(4);
            store = new BranchStore(told);
            model = new Model(sort);
        }

        boolean isRight() {
            StringBuilder calls = new StringBuilder();
            for (int i = 0; i < CALLS; i++) {
                String[] both = call();
                calls.append(both[0]).append(' ');
                Check.same("seed " + seed + ", call " + i + ", " + both[0], both[1], both[2]);
                if (!both[1].equals(both[2])) {
                    System.out.println("  the last calls: " + calls.substring(Math.max(0, calls.length() - 400)));
                    return false;
                }
            }
            return true;
        }

        private String[] both(String name, Check.Call mine, Check.Call due) {
            return new String[] {name, Check.outcome(mine), Check.outcome(due)};
        }

        private String[] call() {
            int drawn = random.nextInt(100);
            if (drawn < 40) {
                return tellKey();
            }
            if (drawn < 62) {
                long v = random.nextInt(10) == 0 ? random.nextLong() : random.nextInt(1000);
                return both("put(" + v + ")", () -> store.put(v), () -> model.put(v));
            }
            return drawn < 80 ? look() : drawn < 92 ? cursorCall() : change();
        }

        private String[] tellKey() {
            int wrongSort = random.nextInt(40);
            int asked = wrongSort < 3 ? wrongSort : sort;
            if (asked == 0) {
                long a = drawNumber();
                return both("number(" + a + ")", () -> {
                    store.number(a);
                    return "";
                }, () -> model.number(a));
            }
            if (asked == 1) {
                long a = drawNumber();
                long b = drawNumber();
                return both("pair(" + a + "," + b + ")", () -> {
                    store.pair(a, b);
                    return "";
                }, () -> model.pair(a, b));
            }
            if (random.nextInt(6 + 12 * (manner % 2)) == 0) {
                return both("erase()", () -> {
                    store.erase();
                    return "";
                }, model::erase);
            }
            int c = drawByte();
            return both("letter(" + c + ")", () -> store.letter(c), () -> model.letter(c));
        }

        private long drawNumber() {
            switch (random.nextInt(4) == 0 ? random.nextInt(4) : manner) {
                case 0:
                    return random.nextInt(300) - 20;
                case 1:
                    return NEAR_EDGES[random.nextInt(NEAR_EDGES.length)];
                case 2:
                    return (long) (random.nextInt(6) - 3) << (8 * random.nextInt(8));
                default:
                    return random.nextLong();
            }
        }

        private int drawByte() {
            int drawn = random.nextInt(60);
            if (drawn < 2) {
                return drawn == 0 ? -1 - random.nextInt(3) : 256 + random.nextInt(3);
            }
            return manner == 0 ? random.nextInt(256) : FEW_BYTES[random.nextInt(FEW_BYTES.length)];
        }

        private String[] look() {
            switch (random.nextInt(8)) {
                case 0:
                    return both("get()", store::get, model::get);
                case 1:
                    return both("rank()", store::rank, model::rank);
                case 2:
                    return both("range()", store::range, model::range);
                case 3:
                    return both("begins()", store::begins, model::begins);
                case 4:
                    return both("compact()", store::compact, model::compact);
                default:
                    int what = random.nextInt(10) - 1;
                    return both("about(" + what + ")", () -> store.about(what), () -> model.about(what));
            }
        }

        private String[] cursorCall() {
            int k = random.nextInt(3) == 0 ? random.nextInt(30) - 2 : random.nextInt(8) - 1;
            boolean on = random.nextBoolean();
            switch (random.nextInt(9)) {
                case 0:
                case 1:
                    return both("seek(" + k + ")", () -> store.seek(k), () -> model.seek(k));
                case 2:
                case 3:
                    return both("move(" + on + ")", () -> store.move(on), () -> model.move(on));
                case 4:
                    return both("there()", store::there, model::there);
                case 5:
                    return both("length()", store::length, model::length);
                case 6:
                    return both("part(" + k + ")", () -> store.part(k), () -> model.part(k));
                case 7:
                    return both("value()", store::value, model::value);
                default:
                    return both("select(" + k + ")", () -> {
                        store.select(k);
                        return "";
                    }, () -> model.select(k));
            }
        }

        private String[] change() {
            int drawn = random.nextInt(16);
            if (drawn < 7) {
                return both("remove()", store::remove, model::remove);
            }
            if (drawn < 9) {
                return both("keep()", () -> {
                    store.keep();
                    return "";
                }, model::keep);
            }
            if (drawn < 12) {
                return both("take()", () -> {
                    store.take();
                    return "";
                }, model::take);
            }
            if (drawn == 12) {
                return both("cut()", store::cut, model::cut);
            }
            if (drawn == 13) {
                return random.nextInt(4) == 0 ? both("clear()", store::clear, model::clear) : call();
            }
            return loadCall();
        }

        private String[] loadCall() {
            long step = random.nextInt(8) == 0 ? random.nextInt(3) - 1 : 1L << random.nextInt(63);
            int n = random.nextInt(3) == 0 ? random.nextInt(1600) - 5 : random.nextInt(40) - 1;
            long v = random.nextLong();
            return both("load(" + step + "," + n + "," + v + ")", () -> {
                store.load(step, n, v);
                return "";
            }, () -> model.load(step, n, v));
        }
    }

    /** The document, word by word. */
    private static final class Model {
        private final int sort;
        private final TreeMap<List<Long>, Long> keys = new TreeMap<>(Situation.ORDER);
        private List<Long> hand;
        private List<Long> other;
        private List<Long> cursor = null;

        Model(int sort) {
            this.sort = sort;
            hand = first();
            other = first();
        }

        private List<Long> first() {
            return sort == 2 ? List.of() : Collections.nCopies(sort + 1, 0L);
        }

        String number(long a) {
            needSort(0);
            hand = List.of(a);
            return "";
        }

        String pair(long a, long b) {
            needSort(1);
            hand = List.of(a, b);
            return "";
        }

        int letter(int c) {
            needSort(2);
            if (c < 0 || c > 255) {
                throw new IllegalArgumentException();
            }
            if (hand.size() == 24) {
                throw new UnsupportedOperationException();
            }
            List<Long> longer = new ArrayList<>(hand);
            longer.add((long) c);
            hand = longer;
            return hand.size();
        }

        String erase() {
            hand = first();
            return "";
        }

        String keep() {
            other = hand;
            return "";
        }

        String take() {
            needCursor();
            hand = cursor;
            return "";
        }

        boolean put(long value) {
            boolean isNew = !keys.containsKey(hand);
            if (isNew && keys.size() == 1500) {
                throw new UnsupportedOperationException();
            }
            keys.put(hand, value);
            return isNew;
        }

        long get() {
            needHandThere();
            return keys.get(hand);
        }

        long remove() {
            needHandThere();
            return keys.remove(hand);
        }

        boolean seek(int how) {
            switch (how) {
                case 0:
                    return moveTo(keys.floorKey(hand));
                case 1:
                    return moveTo(keys.ceilingKey(hand));
                case 2:
                    return moveTo(keys.lowerKey(hand));
                case 3:
                    return moveTo(keys.higherKey(hand));
                case 4:
                    return moveTo(keys.isEmpty() ? null : keys.firstKey());
                case 5:
                    return moveTo(keys.isEmpty() ? null : keys.lastKey());
                default:
                    throw new IllegalArgumentException();
            }
        }

        boolean move(boolean on) {
            needCursor();
            return moveTo(on ? keys.higherKey(cursor) : keys.lowerKey(cursor));
        }

        private boolean moveTo(List<Long> key) {
            if (key != null) {
                cursor = key;
            }
            return key != null;
        }

        boolean there() {
            return cursor != null && keys.containsKey(cursor);
        }

        int length() {
            needCursor();
            return cursor.size();
        }

        long part(int i) {
            needCursor();
            if (i < 0 || i >= cursor.size()) {
                throw new IndexOutOfBoundsException();
            }
            return cursor.get(i);
        }

        long value() {
            if (!there()) {
                throw new NoSuchElementException();
            }
            return keys.get(cursor);
        }

        int rank() {
            return keys.headMap(hand, false).size();
        }

        String select(int k) {
            for (List<Long> key : keys.keySet()) {
                if (keys.headMap(key, false).size() == k) {
                    cursor = key;
                    return "";
                }
            }
            throw new IndexOutOfBoundsException();
        }

        private Set<List<Long>> inRange() {
            Set<List<Long>> found = new HashSet<>();
            for (List<Long> key : keys.keySet()) {
                if (Situation.ORDER.compare(key, other) >= 0 && Situation.ORDER.compare(key, hand) <= 0) {
                    found.add(key);
                }
            }
            return found;
        }

        int range() {
            return inRange().size();
        }

        int cut() {
            Set<List<Long>> gone = inRange();
            for (List<Long> key : gone) {
                keys.remove(key);
            }
            return gone.size();
        }

        int begins() {
            needSort(2);
            int found = 0;
            for (List<Long> key : keys.keySet()) {
                if (key.size() >= hand.size() && key.subList(0, hand.size()).equals(hand)) {
                    found++;
                }
            }
            return found;
        }

        String load(long step, int n, long value) {
            needSort(0);
            if (!keys.isEmpty()) {
                throw new IllegalStateException();
            }
            BigInteger last = BigInteger.valueOf(step)
                .multiply(BigInteger.valueOf(n - 1L)).add(BigInteger.valueOf(hand.get(0)));
            if (step < 1 || n < 0 || n > 0 && last.bitLength() > 63) {
                throw new IllegalArgumentException();
            }
            if (n > 1500) {
                throw new UnsupportedOperationException();
            }
            for (int i = 0; i < n; i++) {
                keys.put(List.of(hand.get(0) + i * step), value + i);
            }
            return "";
        }

        int compact() {
            int cells = 0;
            int[] each = {9, 24, 116, 260};
            for (Set<Character> children : branches().values()) {
                cells += each[sizeOf(children.size())];
            }
            for (List<Long> key : keys.keySet()) {
                cells += (int) Math.ceil(4 + codeOf(key).length() / 4.0);
            }
            return cells;
        }

        int about(int what) {
            if (what < 0 || what > 7) {
                throw new IllegalArgumentException();
            }
            Map<String, Set<Character>> branches = branches();
            if (what == 0) {
                return keys.size();
            }
            if (what <= 4) {
                int found = 0;
                for (Set<Character> children : branches.values()) {
                    found += sizeOf(children.size()) == what - 1 ? 1 : 0;
                }
                return found;
            }
            if (what == 5) {
                int deepest = 0;
                for (List<Long> key : keys.keySet()) {
                    deepest = Math.max(deepest, depth(key, branches));
                }
                return deepest;
            }
            if (what == 6) {
                return keys.containsKey(hand) ? depth(hand, branches) : -1;
            }
            return branches.containsKey("") ? branches.get("").size() : 0;
        }

        int clear() {
            int gone = keys.size();
            keys.clear();
            return gone;
        }

        private int depth(List<Long> key, Map<String, Set<Character>> branches) {
            String code = codeOf(key);
            int found = 0;
            for (int i = 0; i <= code.length(); i++) {
                found += branches.containsKey(code.substring(0, i)) ? 1 : 0;
            }
            return found;
        }

        private Map<String, Set<Character>> branches() {
            Map<String, Set<Character>> found = new HashMap<>();
            for (List<Long> key : keys.keySet()) {
                String code = codeOf(key);
                for (int i = 0; i < code.length(); i++) {
                    found.computeIfAbsent(code.substring(0, i), prefix -> new HashSet<>()).add(code.charAt(i));
                }
            }
            found.values().removeIf(children -> children.size() < 2);
            return found;
        }

        private String codeOf(List<Long> key) {
            StringBuilder code = new StringBuilder();
            for (long part : key) {
                if (sort == 2) {
                    code.append((char) part).append(part == 0 ? "\u00ff" : "");
                } else {
                    byte[] bytes = ByteBuffer.allocate(8).putLong(part).array();
                    bytes[0] ^= (byte) 128;
                    code.append(new String(bytes, StandardCharsets.ISO_8859_1));
                }
            }
            return code.append(sort == 2 ? "\0\0" : "").toString();
        }

        private static int sizeOf(int children) {
            return children <= 4 ? 0 : children <= 16 ? 1 : children <= 48 ? 2 : 3;
        }

        private void needSort(int due) {
            if (sort != due) {
                throw new IllegalStateException();
            }
        }

        private void needCursor() {
            if (cursor == null) {
                throw new NoSuchElementException();
            }
        }

        private void needHandThere() {
            if (!keys.containsKey(hand)) {
                throw new NoSuchElementException();
            }
        }
    }
}
