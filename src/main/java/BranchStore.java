import java.util.Arrays;
import java.util.NoSuchElementException;

/**
 * A store of numbers under keys that are numbers, pairs of numbers, or rows of bytes. The tree of the
 * document follows from the keys alone, so only the keys are held, in their order; the tree's shape is
 * read off the bytes that neighbours share.
 */
public final class BranchStore {
    public static final int NONE = -1;

    private static final int SORTS = 3;
    private static final int NUMBERS = 0;
    private static final int PAIRS = 1;
    private static final int ROWS = 2;

    private static final int MOST_KEYS = 1500;
    private static final int MOST_LETTERS = 24;
    private static final long GREATEST_NUMBER = 9223372036854775807L;
    private static final long HIGHEST_BIT = 1L << 63;

    private static final int CELLS_OF_A_KEY = 4;
    private static final int CODE_BYTES_TO_A_CELL = 4;
    private static final int[] CELLS_OF_A_BRANCH = {9, 24, 116, 260};

    private final int sort;
    private final Key hand;
    private final Key other;
    private final Key cursor;
    private final Key scratch;
    private final Table table;
    private final Shape shape;
    private boolean cursorIsAtAKey;

    public BranchStore(int sort) {
        this.sort = Math.floorMod(sort, SORTS);
        hand = new Key(this.sort);
        other = new Key(this.sort);
        cursor = new Key(this.sort);
        scratch = new Key(this.sort);
        table = new Table(hand.words.length);
        shape = new Shape(table.mostShared());
        cursorIsAtAKey = false;
    }

    public void number(long a) throws IllegalStateException {
        if (sort != NUMBERS) {
            throw new IllegalStateException("the keys are no numbers");
        }
        hand.setNumber(0, a);
    }

    public void pair(long a, long b) throws IllegalStateException {
        if (sort != PAIRS) {
            throw new IllegalStateException("the keys are no pairs");
        }
        hand.setNumber(0, a);
        hand.setNumber(1, b);
    }

    public int letter(int c) throws IllegalStateException, IllegalArgumentException, UnsupportedOperationException {
        if (sort != ROWS) {
            throw new IllegalStateException("the keys are no rows");
        }
        if (c < 0 || c > 255) {
            throw new IllegalArgumentException("no byte");
        }
        int before = hand.partCount();
        if (before >= MOST_LETTERS) {
            throw new UnsupportedOperationException("the row is full");
        }
        hand.addLetter(c);
        return before + 1;
    }

    public void erase() {
        hand.becomeFirst();
    }

    public void keep() {
        other.become(hand);
    }

    public void take() throws NoSuchElementException {
        if (!cursorIsAtAKey) {
            throw new NoSuchElementException("the cursor is at no key");
        }
        hand.become(cursor);
    }

    public boolean put(long value) throws UnsupportedOperationException {
        int place = table.countBelow(hand);
        if (table.holds(place, hand)) {
            table.values[place] = value;
            return false;
        }
        if (table.count >= MOST_KEYS) {
            throw new UnsupportedOperationException("the store is full");
        }
        table.insert(place, hand, value);
        return true;
    }

    public long get() throws NoSuchElementException {
        int place = table.countBelow(hand);
        if (!table.holds(place, hand)) {
            throw new NoSuchElementException("the key at hand is not there");
        }
        return table.values[place];
    }

    public long remove() throws NoSuchElementException {
        int place = table.countBelow(hand);
        if (!table.holds(place, hand)) {
            throw new NoSuchElementException("the key at hand is not there");
        }
        long last = table.values[place];
        table.cutOut(place, place + 1);
        return last;
    }

    public boolean seek(int how) throws IllegalArgumentException {
        switch (how) {
            case 0:
                return bringCursorTo(table.countUpTo(hand) - 1);
            case 1:
                return bringCursorTo(table.countBelow(hand));
            case 2:
                return bringCursorTo(table.countBelow(hand) - 1);
            case 3:
                return bringCursorTo(table.countUpTo(hand));
            case 4:
                return bringCursorTo(0);
            case 5:
                return bringCursorTo(table.count - 1);
            default:
                throw new IllegalArgumentException("no such way to seek");
        }
    }

    public boolean move(boolean on) throws NoSuchElementException {
        if (!cursorIsAtAKey) {
            throw new NoSuchElementException("the cursor is at no key");
        }
        return bringCursorTo(on ? table.countUpTo(cursor) : table.countBelow(cursor) - 1);
    }

    public boolean there() {
        return cursorIsAtAKey && table.holds(table.countBelow(cursor), cursor);
    }

    public int length() throws NoSuchElementException {
        if (!cursorIsAtAKey) {
            throw new NoSuchElementException("the cursor is at no key");
        }
        return cursor.partCount();
    }

    public long part(int i) throws NoSuchElementException, IndexOutOfBoundsException {
        if (!cursorIsAtAKey) {
            throw new NoSuchElementException("the cursor is at no key");
        }
        if (i < 0 || i >= cursor.partCount()) {
            throw new IndexOutOfBoundsException("the key has no such part");
        }
        return cursor.partAt(i);
    }

    public long value() throws NoSuchElementException {
        int place = table.countBelow(cursor);
        if (!cursorIsAtAKey || !table.holds(place, cursor)) {
            throw new NoSuchElementException("the cursor is at no key that is there");
        }
        return table.values[place];
    }

    public int rank() {
        return table.countBelow(hand);
    }

    public void select(int k) throws IndexOutOfBoundsException {
        if (!bringCursorTo(k)) {
            throw new IndexOutOfBoundsException("there are not so many keys");
        }
    }

    public int range() {
        return Math.max(0, table.countUpTo(hand) - table.countBelow(other));
    }

    public int cut() {
        int from = table.countBelow(other);
        int to = table.countUpTo(hand);
        if (to <= from) {
            return 0;
        }
        table.cutOut(from, to);
        return to - from;
    }

    public int begins() throws IllegalStateException {
        if (sort != ROWS) {
            throw new IllegalStateException("the keys are no rows");
        }
        // The row at hand is the least of those that begin with it, and these stand side by side.
        int from = table.countBelow(hand);
        int to = from;
        int due = hand.letterBytes();
        while (to < table.count && table.sharedWithKey(to, hand) >= due) {
            to++;
        }
        return to - from;
    }

    public void load(long step, int n, long value)
            throws IllegalStateException, IllegalArgumentException, UnsupportedOperationException {
        if (sort != NUMBERS || table.count > 0) {
            throw new IllegalStateException("the keys are no numbers, or some are there");
        }
        long first = hand.partAt(0);
        if (step < 1 || n < 0 || !lastNumberFits(first, step, n)) {
            throw new IllegalArgumentException("no such row of numbers");
        }
        if (n > MOST_KEYS) {
            throw new UnsupportedOperationException("these are too many keys");
        }
        for (int i = 0; i < n; i++) {
            scratch.setNumber(0, first + i * step);
            table.insert(i, scratch, value + i);
        }
    }

    public int compact() {
        shape.measure(table);
        int cells = 0;
        for (int size = 0; size < CELLS_OF_A_BRANCH.length; size++) {
            cells += shape.branchesOfSize[size] * CELLS_OF_A_BRANCH[size];
        }
        for (int place = 0; place < table.count; place++) {
            table.copyTo(place, scratch);
            cells += CELLS_OF_A_KEY + (scratch.codeBytes() + CODE_BYTES_TO_A_CELL - 1) / CODE_BYTES_TO_A_CELL;
        }
        return cells;
    }

    public int about(int what) throws IllegalArgumentException {
        switch (what) {
            case 0:
                return table.count;
            case 1:
            case 2:
            case 3:
            case 4:
                shape.measure(table);
                return shape.branchesOfSize[what - 1];
            case 5:
                shape.measure(table);
                return shape.deepest;
            case 6:
                return depthOfHand();
            case 7:
                shape.measure(table);
                return shape.childrenOfRoot;
            default:
                throw new IllegalArgumentException("nothing is told about this");
        }
    }

    public int clear() {
        int gone = table.count;
        table.cutOut(0, gone);
        return gone;
    }

    private boolean bringCursorTo(int place) {
        if (place < 0 || place >= table.count) {
            return false;
        }
        table.copyTo(place, cursor);
        cursorIsAtAKey = true;
        return true;
    }

    private int depthOfHand() {
        int place = table.countBelow(hand);
        return table.holds(place, hand) ? Shape.depthOf(table, place) : NONE;
    }

    /** Needs a step of at least 1 and an n of at least 0. */
    private static boolean lastNumberFits(long first, long step, int n) {
        // The way up to the greatest long may itself be too long for a long, so it is read without a
        // sign, and divided by way of its half.
        long way = GREATEST_NUMBER - first;
        long steps = ((way >>> 1) / step) << 1;
        long rest = way - steps * step;
        if (rest < 0 || rest >= step) {
            steps++;
        }
        return steps < 0 || n - 1 <= steps;
    }

    /**
     * A key, held as its code: eight bytes to a word, the first of them highest, and zeros behind the
     * last. No code goes on where another one ends, so the zeros never make two codes equal, and the
     * order of the words, read without a sign, is that of the keys.
     */
    private static final class Key {
        static final int BYTES_OF_A_WORD = 8;

        // A row of 24 zeros has the longest code: 48 bytes and the two at the end.
        private static final int WORDS_OF_A_ROW = 7;
        private static final int BYTES_OF_THE_END = 2;

        final boolean isRow;
        final long[] words;

        Key(int sort) {
            isRow = sort == ROWS;
            words = new long[isRow ? WORDS_OF_A_ROW : sort + 1];
            becomeFirst();
        }

        void becomeFirst() {
            Arrays.fill(words, isRow ? 0 : HIGHEST_BIT);
        }

        void become(Key model) {
            System.arraycopy(model.words, 0, words, 0, words.length);
        }

        void setNumber(int i, long a) {
            words[i] = a ^ HIGHEST_BIT;
        }

        void addLetter(int c) {
            int end = letterBytes();
            if (c == 0) {
                fillByte(end + 1, 255);
            } else {
                fillByte(end, c);
            }
        }

        int partCount() {
            if (!isRow) {
                return words.length;
            }
            // Every letter's code ends with its only byte that is not 0.
            int letters = 0;
            int end = letterBytes();
            for (int at = 0; at < end; at++) {
                if (byteAt(at) != 0) {
                    letters++;
                }
            }
            return letters;
        }

        long partAt(int i) {
            if (!isRow) {
                return words[i] ^ HIGHEST_BIT;
            }
            int at = 0;
            for (int letters = 0; letters < i; letters++) {
                at += byteAt(at) == 0 ? 2 : 1;
            }
            return byteAt(at);
        }

        int codeBytes() {
            return isRow ? letterBytes() + BYTES_OF_THE_END : BYTES_OF_A_WORD * words.length;
        }

        /** How many bytes of a row's code stand for its letters. */
        int letterBytes() {
            // No letter's code ends with 0, so the last byte that is not 0 is the last letter's.
            int end = BYTES_OF_A_WORD * words.length;
            while (end > 0 && byteAt(end - 1) == 0) {
                end--;
            }
            return end;
        }

        private int byteAt(int at) {
            return (int) (words[at / BYTES_OF_A_WORD] >>> shiftOf(at)) & 255;
        }

        private void fillByte(int at, int b) {
            words[at / BYTES_OF_A_WORD] |= (long) b << shiftOf(at);
        }

        private static int shiftOf(int at) {
            return 56 - 8 * (at % BYTES_OF_A_WORD);
        }
    }

    /** The keys that there are, in their order, and their values. */
    private static final class Table {
        private static final int PLACES_AT_FIRST = 16;

        final int width;
        long[] codes;
        long[] values;
        int count;
        boolean changed;

        Table(int width) {
            this.width = width;
            codes = new long[PLACES_AT_FIRST * width];
            values = new long[PLACES_AT_FIRST];
            count = 0;
            changed = false;
        }

        int countBelow(Key key) {
            int low = 0;
            int high = count;
            while (low < high) {
                int middle = (low + high) / 2;
                if (isBelow(middle, key)) {
                    low = middle + 1;
                } else {
                    high = middle;
                }
            }
            return low;
        }

        int countUpTo(Key key) {
            int below = countBelow(key);
            return holds(below, key) ? below + 1 : below;
        }

        boolean holds(int place, Key key) {
            return place < count && sharedWithKey(place, key) == mostShared();
        }

        void insert(int place, Key key, long value) {
            growIfFull();
            int behind = count - place;
            System.arraycopy(codes, place * width, codes, (place + 1) * width, behind * width);
            System.arraycopy(values, place, values, place + 1, behind);
            System.arraycopy(key.words, 0, codes, place * width, width);
            values[place] = value;
            count++;
            changed = true;
        }

        void cutOut(int from, int to) {
            int behind = count - to;
            System.arraycopy(codes, to * width, codes, from * width, behind * width);
            System.arraycopy(values, to, values, from, behind);
            count -= to - from;
            changed = true;
        }

        void copyTo(int place, Key key) {
            System.arraycopy(codes, place * width, key.words, 0, width);
        }

        int mostShared() {
            return Key.BYTES_OF_A_WORD * width;
        }

        /** Needs a place above 0. */
        int sharedWithPrevious(int place) {
            return sharedBytes(place, codes, (place - 1) * width);
        }

        int sharedWithKey(int place, Key key) {
            return sharedBytes(place, key.words, 0);
        }

        private boolean isBelow(int place, Key key) {
            for (int i = 0; i < width; i++) {
                long mine = codes[place * width + i];
                long its = key.words[i];
                if (mine != its) {
                    return (mine ^ HIGHEST_BIT) < (its ^ HIGHEST_BIT);
                }
            }
            return false;
        }

        private int sharedBytes(int place, long[] words, int from) {
            for (int i = 0; i < width; i++) {
                long difference = codes[place * width + i] ^ words[from + i];
                if (difference != 0) {
                    return Key.BYTES_OF_A_WORD * i + zeroBytesBefore(difference);
                }
            }
            return mostShared();
        }

        private static int zeroBytesBefore(long difference) {
            int zeros = 0;
            for (int shift = 56; shift > 0 && difference >>> shift == 0; shift -= 8) {
                zeros++;
            }
            return zeros;
        }

        private void growIfFull() {
            if (count == values.length) {
                codes = Arrays.copyOf(codes, 2 * codes.length);
                values = Arrays.copyOf(values, 2 * values.length);
            }
        }
    }

    /**
     * The tree's branches. What two neighbours share is a branch, and every branch is shared by as many
     * pairs of neighbours as it has children, less one. Going through the keys, the branches with which
     * the last key begins are open, the longest on top; none comes to a branch that has been closed. No two
     * of the open ones are of one length, and all are shorter than a code, so as many places as a code can
     * have bytes are enough for them.
     */
    private static final class Shape {
        final int[] branchesOfSize;
        int deepest;
        int childrenOfRoot;

        private final int[] lengths;
        private final int[] children;
        private final int[] heights;
        private int open;

        Shape(int mostBytes) {
            branchesOfSize = new int[CELLS_OF_A_BRANCH.length];
            deepest = 0;
            childrenOfRoot = 0;
            lengths = new int[mostBytes];
            children = new int[mostBytes];
            heights = new int[mostBytes];
            open = 0;
        }

        void measure(Table table) {
            if (!table.changed) {
                return;
            }
            Arrays.fill(branchesOfSize, 0);
            childrenOfRoot = 0;
            for (int place = 1; place < table.count; place++) {
                int shared = table.sharedWithPrevious(place);
                addChild(shared, closeLongerThan(shared));
            }
            deepest = closeLongerThan(NONE);
            table.changed = false;
        }

        /** How deep the deepest key is in what was closed. */
        private int closeLongerThan(int length) {
            int height = 0;
            while (open > 0 && lengths[open - 1] > length) {
                open--;
                height = Math.max(heights[open], height + 1);
                branchesOfSize[sizeWith(children[open])]++;
                if (lengths[open] == 0) {
                    childrenOfRoot = children[open];
                }
            }
            return height;
        }

        private void addChild(int length, int heightBefore) {
            if (open > 0 && lengths[open - 1] == length) {
                children[open - 1]++;
                heights[open - 1] = Math.max(heights[open - 1], heightBefore + 1);
            } else {
                lengths[open] = length;
                children[open] = 2;
                heights[open] = heightBefore + 1;
                open++;
            }
        }

        private static int sizeWith(int children) {
            if (children <= 4) {
                return 0;
            }
            if (children <= 16) {
                return 1;
            }
            return children <= 48 ? 2 : 3;
        }

        /** A key begins with a branch of just those lengths that it shares with some other key. */
        static int depthOf(Table table, int place) {
            long lengthsSeen = 0;
            int shared = table.mostShared();
            for (int i = place; i > 0; i--) {
                shared = Math.min(shared, table.sharedWithPrevious(i));
                lengthsSeen |= 1L << shared;
            }
            shared = table.mostShared();
            for (int i = place + 1; i < table.count; i++) {
                shared = Math.min(shared, table.sharedWithPrevious(i));
                lengthsSeen |= 1L << shared;
            }
            return Long.bitCount(lengthsSeen);
        }
    }
}
