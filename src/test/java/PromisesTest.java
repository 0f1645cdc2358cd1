/** The promises one by one: ordinary inputs, the edges that the document names, and wrong inputs. */
public final class PromisesTest extends Cases {
    public static void main(String[] args) {
        promise1NewObject();
        promise2Number();
        promise3Pair();
        promise4Letter();
        promise5Erase();
        promise6Keep();
        promise7Take();
        promise8Put();
        promise9Get();
        promise10Remove();
        promise11Seek();
        promise12Move();
        promise13There();
        promise14Length();
        promise15Part();
        promise16Value();
        promise17Rank();
        promise18Select();
        promise19Range();
        promise20Cut();
        promise21Begins();
        promise22Load();
        promise22LoadAtItsEdges();
        promise23Compact();
        promise24AboutSizes();
        promise24AboutDepths();
        promise24AboutRows();
        promise25Clear();
        Check.end();
    }

    private static BranchStore numbers(long... keys) {
        BranchStore s = new BranchStore(0);
        for (long key : keys) {
            s.number(key);
            s.put(10 * key);
        }
        return s;
    }

    private static BranchStore rows(String... keys) {
        BranchStore s = new BranchStore(2);
        for (String key : keys) {
            row(s, key);
            s.put(key.length());
        }
        return s;
    }

    private static Object row(BranchStore s, String letters) {
        s.erase();
        for (int i = 0; i < letters.length(); i++) {
            s.letter(letters.charAt(i));
        }
        return "";
    }

    private static Check.Call number(BranchStore s, long a) {
        return () -> {
            s.number(a);
            return "";
        };
    }

    private static Check.Call pair(BranchStore s, long a, long b) {
        return () -> {
            s.pair(a, b);
            return "";
        };
    }

    private static Check.Call take(BranchStore s) {
        return () -> {
            s.take();
            return "";
        };
    }

    private static Check.Call select(BranchStore s, int k) {
        return () -> {
            s.select(k);
            return "";
        };
    }

    private static Check.Call load(BranchStore s, long step, int n, long value) {
        return () -> {
            s.load(step, n, value);
            return "";
        };
    }

    /** The cursor's key and value, to see that a call left them. */
    private static String cursorOf(BranchStore s) {
        return Check.outcome(() -> s.part(0)) + "/" + Check.outcome(s::value);
    }

    private static void promise1NewObject() {
        int[] sorts = {0, 3, -3, 2147483646, 1, 4, -2, 2147483647, 2, 5, -1, -2147483647, -2147483648};
        int[] due = {0, 0, 0, 0, 1, 1, 1, 1, 2, 2, 2, 2, 1};
        for (int i = 0; i < sorts.length; i++) {
            BranchStore s = new BranchStore(sorts[i]);
            String what = "1: sort " + sorts[i];
            Check.same(what + " numbers", Check.outcome(number(s, 1)).isEmpty(), due[i] == 0);
            Check.same(what + " pairs", Check.outcome(pair(s, 1, 1)).isEmpty(), due[i] == 1);
            Check.same(what + " rows", Check.outcome(() -> s.letter(1)), due[i] == 2 ? "1" : "throws.IllegalStateException");
            Check.same(what + " keys", s.about(0), 0);
            Check.same(what + " cells", s.compact(), 0);
            Check.same(what + " cursor", s.there(), false);
        }
        for (int sort = 0; sort < 3; sort++) {
            BranchStore s = new BranchStore(sort);
            s.put(5);
            s.seek(4);
            Check.same("1: parts of the first key", s.length(), sort < 2 ? sort + 1 : 0);
            Check.same("1: the other key is the first one, too", s.range(), 1);
        }
    }

    private static void promise2Number() {
        BranchStore s = new BranchStore(0);
        long[] edges = {MIN, -1, 0, 1, MAX};
        for (long a : edges) {
            s.number(a);
            s.put(a);
        }
        for (int k = 0; k < edges.length; k++) {
            s.select(k);
            Check.same("2: order", s.part(0), edges[k]);
        }
        BranchStore pairs = new BranchStore(1);
        pairs.pair(3, 4);
        Check.fails("2: number of pairs", STATE, number(pairs, 1));
        pairs.put(1);
        pairs.seek(4);
        Check.same("2: the pair at hand stays", pairs.part(0) + "," + pairs.part(1), "3,4");
        Check.fails("2: number of rows", STATE, number(new BranchStore(2), 1));
    }

    private static void promise3Pair() {
        BranchStore s = new BranchStore(1);
        long[][] ordered = {{MIN, MAX}, {-1, 5}, {0, MIN}, {0, -1}, {0, 0}, {0, MAX}, {1, MIN}, {MAX, 0}};
        for (int i = ordered.length - 1; i >= 0; i--) {
            s.pair(ordered[i][0], ordered[i][1]);
            s.put(i);
        }
        for (int k = 0; k < ordered.length; k++) {
            s.select(k);
            Check.same("3: order", s.part(0) + "," + s.part(1) + "," + s.value(), ordered[k][0] + "," + ordered[k][1] + "," + k);
        }
        Check.fails("3: pair of numbers", STATE, pair(new BranchStore(0), 1, 2));
        Check.fails("3: pair of rows", STATE, pair(new BranchStore(2), 1, 2));
    }

    private static void promise4Letter() {
        BranchStore s = new BranchStore(2);
        Check.fails("4: -1", ARGUMENT, () -> s.letter(-1));
        Check.fails("4: 256", ARGUMENT, () -> s.letter(256));
        for (int i = 1; i <= 24; i++) {
            Check.same("4: how many", s.letter(i % 3 == 0 ? 0 : 255), i);
        }
        Check.fails("4: the 25th", FULL, () -> s.letter(0));
        Check.fails("4: the 25th, and no byte", ARGUMENT, () -> s.letter(256));
        s.put(1);
        s.seek(4);
        Check.same("4: the full row", s.length() + "," + s.part(0) + "," + s.part(2) + "," + s.part(23), "24,255,0,0");
        Check.fails("4: letter of numbers", STATE, () -> new BranchStore(0).letter(1));
        Check.fails("4: letter of pairs, and no byte", STATE, () -> new BranchStore(1).letter(-1));
    }

    private static void promise5Erase() {
        BranchStore s = numbers(0, 5);
        s.erase();
        Check.same("5: 0", s.get(), 0);
        BranchStore pairs = new BranchStore(1);
        pairs.pair(7, 8);
        pairs.keep();
        pairs.erase();
        pairs.put(3);
        pairs.seek(4);
        Check.same("5: 0 and 0", pairs.part(0) + "," + pairs.part(1), "0,0");
        Check.same("5: the other key stays", pairs.range(), 0);
        BranchStore rows = new BranchStore(2);
        row(rows, "abcdefghijklmnopqrstuvwx");
        rows.erase();
        rows.put(4);
        rows.seek(4);
        Check.same("5: the empty row", rows.length(), 0);
        Check.same("5: the first letter again", rows.letter(9), 1);
    }

    private static void promise6Keep() {
        BranchStore s = numbers(1, 2, 3, 4);
        s.number(2);
        s.keep();
        s.number(3);
        Check.same("6: from 2 to 3", s.range(), 2);
        s.number(4);
        Check.same("6: from 2 to 4, the other key stays", s.range(), 3);
        s.keep();
        Check.same("6: both the same", s.range(), 1);
        Check.same("6: the key at hand stays", s.get(), 40);
        BranchStore rows = rows("a", "ab", "b");
        row(rows, "a");
        rows.keep();
        rows.letter('b');
        Check.same("6: a later letter is not the other key's", rows.range(), 2);
    }

    private static void promise7Take() {
        BranchStore s = numbers(1, 2);
        Check.fails("7: at none", ABSENT, take(s));
        s.seek(4);
        s.take();
        Check.same("7: the least", s.get(), 10);
        s.remove();
        s.number(2);
        s.take();
        Check.fails("7: it is there no more", ABSENT, s::get);
        Check.same("7: but at hand", s.put(7) + "," + s.rank() + "," + s.about(0), "true,0,2");
        BranchStore rows = rows("a\0");
        rows.seek(5);
        row(rows, "zzzz");
        rows.take();
        Check.same("7: a letter comes behind what was taken", rows.letter(3), 3);
        rows.put(1);
        rows.take();
        Check.same("7: the cursor's key is not changed by it", rows.get() + "," + rows.length(), "2,2");
    }

    private static void promise8Put() {
        BranchStore s = new BranchStore(0);
        Check.same("8: new", s.put(5), true);
        Check.same("8: again", s.put(6), false);
        Check.same("8: the later value", s.get(), 6);
        s.put(MIN);
        Check.same("8: any long", s.get(), MIN);
        s.clear();
        s.load(2, 1500, 0);
        s.number(1);
        Check.fails("8: 1500 others", FULL, () -> s.put(1));
        Check.same("8: nothing has changed", s.about(0) + "," + s.rank() + "," + Check.outcome(s::get),
            "1500,1,throws.NoSuchElementException");
        s.number(2998);
        Check.same("8: 1499 others", s.put(-1) + "," + s.get(), "false,-1");
        s.remove();
        s.number(1);
        Check.same("8: there is room again", s.put(3) + "," + s.about(0), "true,1500");
    }

    private static void promise9Get() {
        BranchStore s = numbers(1, 3);
        Check.same("9: 3", s.get(), 30);
        s.number(2);
        Check.fails("9: between", ABSENT, s::get);
        s.number(4);
        Check.fails("9: above", ABSENT, s::get);
        Check.fails("9: of nothing", ABSENT, new BranchStore(2)::get);
        BranchStore rows = rows("a");
        row(rows, "a\0");
        Check.fails("9: a row that only goes on with 0", ABSENT, rows::get);
    }

    private static void promise10Remove() {
        BranchStore s = numbers(1, 2, 3);
        s.number(2);
        Check.same("10: its value", s.remove(), 20);
        Check.fails("10: again", ABSENT, s::remove);
        Check.same("10: others stay", s.about(0) + "," + s.compact(), "2,21");
        s.number(3);
        Check.same("10: the one behind", s.remove(), 30);
        s.number(1);
        Check.same("10: the last one", s.remove() + "," + s.about(0) + "," + s.compact(), "10,0,0");
        Check.fails("10: of nothing", ABSENT, s::remove);
    }

    private static void promise11Seek() {
        long[] hands = {5, 10, 15, 30, 35};
        String[][] due = {
            {"-", "10", "-", "10"}, {"10", "10", "-", "20"}, {"10", "20", "10", "20"}, {"30", "30", "20", "-"}, {"30", "-", "30", "-"},
        };
        for (int i = 0; i < hands.length; i++) {
            for (int how = 0; how < 4; how++) {
                BranchStore s = numbers(10, 20, 30);
                s.number(hands[i]);
                boolean found = s.seek(how);
                Check.same("11: seek(" + how + ") from " + hands[i], found ? "" + s.part(0) : "-", due[i][how]);
                Check.same("11: the cursor is at none if none was found", s.there(), found);
            }
        }
        BranchStore s = numbers(10, 20, 30);
        s.number(99);
        Check.same("11: the least", s.seek(4) + "," + s.part(0), "true,10");
        Check.same("11: the greatest", s.seek(5) + "," + s.part(0), "true,30");
        Check.same("11: none above, it stays", s.seek(3) + "," + cursorOf(s), "false,30/300");
        Check.fails("11: -1", ARGUMENT, () -> s.seek(-1));
        Check.fails("11: 6", ARGUMENT, () -> s.seek(6));
        Check.same("11: it stays", cursorOf(s), "30/300");
        BranchStore empty = new BranchStore(1);
        for (int how = 0; how < 6; how++) {
            Check.same("11: seek(" + how + ") in nothing", empty.seek(how), false);
        }
        Check.fails("11: wrong in nothing, too", ARGUMENT, () -> empty.seek(7));
    }

    private static void promise12Move() {
        BranchStore s = numbers(1, 2, 3);
        Check.fails("12: at none", ABSENT, () -> s.move(true));
        Check.fails("12: at none, back", ABSENT, () -> s.move(false));
        s.seek(4);
        Check.same("12: none below, it stays", s.move(false) + "," + cursorOf(s), "false,1/10");
        Check.same("12: on", s.move(true) + "," + cursorOf(s), "true,2/20");
        s.number(2);
        s.remove();
        Check.same("12: on from a key that is there no more", s.move(true) + "," + cursorOf(s), "true,3/30");
        Check.same("12: none above, it stays", s.move(true) + "," + cursorOf(s), "false,3/30");
        s.number(3);
        s.remove();
        Check.same("12: back from a key that is there no more", s.move(false) + "," + cursorOf(s), "true,1/10");
        s.clear();
        Check.same("12: nowhere to go, it stays", s.move(true) + "," + s.move(false) + "," + s.part(0), "false,false,1");
    }

    private static void promise13There() {
        BranchStore s = numbers(1, 2);
        Check.same("13: at none", s.there(), false);
        s.seek(4);
        Check.same("13: at 1", s.there(), true);
        s.number(1);
        s.remove();
        Check.same("13: it went", s.there(), false);
        s.put(5);
        Check.same("13: it is there again", s.there(), true);
        BranchStore first = new BranchStore(0);
        first.put(1);
        Check.same("13: a key 0 does not bring the cursor", first.there(), false);
    }

    private static void promise14Length() {
        for (int sort = 0; sort < 3; sort++) {
            BranchStore s = new BranchStore(sort);
            s.put(1);
            Check.fails("14: at none", ABSENT, s::length);
            s.seek(4);
            s.clear();
            Check.same("14: even when it is there no more", s.length(), sort < 2 ? sort + 1 : 0);
        }
        String[] keys = {"\0", "\0\0", "\0a\u00ff", "\u00ff\u00ff", "\0\0\0\0\0\0\0\0\0\0\0\0\0\0\0\0\0\0\0\0\0\0\0\0"};
        for (String key : keys) {
            BranchStore s = rows(key);
            s.seek(5);
            s.erase();
            Check.same("14: bytes", s.length(), key.length());
        }
    }

    private static void promise15Part() {
        BranchStore s = numbers(MIN);
        Check.fails("15: at none", ABSENT, () -> s.part(0));
        Check.fails("15: at none, and no such part", ABSENT, () -> s.part(-1));
        s.seek(4);
        Check.same("15: the number", s.part(0), MIN);
        Check.fails("15: -1", INDEX, () -> s.part(-1));
        Check.fails("15: 1", INDEX, () -> s.part(1));
        BranchStore pairs = new BranchStore(1);
        pairs.pair(-4, 9);
        pairs.put(1);
        pairs.seek(4);
        pairs.clear();
        Check.same("15: both numbers", pairs.part(0) + "," + pairs.part(1), "-4,9");
        Check.fails("15: 2", INDEX, () -> pairs.part(2));
        String key = "\0\u00ff\u00fe\1\0\0a\u0080";
        BranchStore rows = rows(key);
        rows.seek(4);
        rows.erase();
        for (int i = 0; i < key.length(); i++) {
            Check.same("15: byte " + i, rows.part(i), (int) key.charAt(i));
        }
        Check.fails("15: behind the last byte", INDEX, () -> rows.part(key.length()));
        BranchStore empty = rows("");
        empty.seek(4);
        Check.fails("15: of the empty row", INDEX, () -> empty.part(0));
        Check.fails("15: far off", INDEX, () -> empty.part(2147483647));
    }

    private static void promise16Value() {
        BranchStore s = numbers(0, 2);
        Check.fails("16: at none", ABSENT, s::value);
        s.seek(5);
        Check.same("16: of 2", s.value(), 20);
        s.put(-8);
        Check.same("16: the new one", s.value(), -8);
        s.remove();
        Check.fails("16: not there", ABSENT, s::value);
        s.put(9);
        Check.same("16: there again", s.value(), 9);
    }

    private static void promise17Rank() {
        BranchStore s = numbers(-10, 0, 10);
        long[] hands = {MIN, -10, -9, 0, 1, 10, 11, MAX};
        int[] due = {0, 0, 1, 1, 2, 2, 3, 3};
        for (int i = 0; i < hands.length; i++) {
            s.number(hands[i]);
            Check.same("17: rank of " + hands[i], s.rank(), due[i]);
        }
        String[] ordered = {
            "", "\0", "\0\0", "\0\1", "\0\u00ff", "\1", "a", "a\0", "a\0\0", "a\1", "ab", "b",
            "\u007f", "\u0080", "\u00ff", "\u00ff\0", "\u00ff\u00ff",
        };
        BranchStore rows = rows(ordered);
        for (int i = 0; i < ordered.length; i++) {
            row(rows, ordered[i]);
            Check.same("17: rank of row " + i, rows.rank(), i);
        }
        Check.same("17: in nothing", new BranchStore(1).rank(), 0);
    }

    private static void promise18Select() {
        BranchStore s = numbers(5, 6, 7);
        Check.fails("18: -1", INDEX, select(s, -1));
        Check.fails("18: 3", INDEX, select(s, 3));
        Check.same("18: the cursor is still at none", s.there(), false);
        for (int k = 0; k < 3; k++) {
            s.select(k);
            Check.same("18: select(" + k + ")", cursorOf(s), (5 + k) + "/" + (50 + 10 * k));
        }
        Check.fails("18: far off", INDEX, select(s, 2147483647));
        Check.same("18: the cursor stays", cursorOf(s), "7/70");
        Check.fails("18: in nothing", INDEX, select(new BranchStore(2), 0));
    }

    private static void promise19Range() {
        long[][] rows = {{1, 4, 3}, {2, 3, 1}, {0, 9, 3}, {1, 1, 1}, {3, 3, 0}, {4, 1, 0}, {5, 9, 0}, {MIN, MAX, 3}, {MAX, MIN, 0}};
        for (long[] r : rows) {
            BranchStore s = numbers(1, 2, 4);
            s.number(r[0]);
            s.keep();
            s.number(r[1]);
            Check.same("19: from " + r[0] + " to " + r[1], s.range(), r[2]);
            Check.same("19: nothing goes", s.about(0), 3);
        }
        Check.same("19: in nothing", new BranchStore(0).range(), 0);
    }

    private static void promise20Cut() {
        BranchStore s = numbers(1, 2, 3, 4, 5);
        s.select(2);
        s.number(4);
        s.keep();
        s.number(2);
        Check.same("20: the wrong way round", s.cut() + "," + s.about(0), "0,5");
        s.keep();
        s.number(4);
        Check.same("20: 2, 3 and 4", s.cut() + "," + s.about(0) + "," + s.compact(), "3,2,21");
        Check.same("20: again", s.cut(), 0);
        Check.same("20: the cursor stays at its key", s.part(0) + "," + s.there(), "3,false");
        Check.same("20: the others keep their values", s.move(true) + "," + cursorOf(s), "true,5/50");
        s.number(MIN);
        s.keep();
        s.number(MAX);
        Check.same("20: all", s.cut() + "," + s.about(0) + "," + s.cut(), "2,0,0");
    }

    private static void promise21Begins() {
        BranchStore s = rows("", "a", "a\0", "a\0\0", "ab", "abc", "b", "\0", "\0\u00ff", "\u00ff", "\u00ff\u00ff");
        String[] hands = {"", "a", "a\0", "a\0\0", "a\0\0\0", "ab", "abc", "abd", "ac", "\0", "\0\0", "\u00ff", "\u00fe", "b"};
        int[] due = {11, 5, 2, 1, 0, 2, 1, 0, 0, 2, 0, 2, 0, 1};
        for (int i = 0; i < hands.length; i++) {
            row(s, hands[i]);
            Check.same("21: row " + i, s.begins(), due[i]);
        }
        Check.same("21: in nothing", new BranchStore(2).begins(), 0);
        Check.fails("21: numbers", STATE, new BranchStore(0)::begins);
        Check.fails("21: pairs", STATE, new BranchStore(1)::begins);
    }

    private static void promise22Load() {
        BranchStore s = new BranchStore(0);
        s.number(-5);
        s.load(3, 4, MAX - 1);
        String seen = "";
        for (int k = 0; k < s.about(0); k++) {
            s.select(k);
            seen += s.part(0) + ":" + s.value() + " ";
        }
        Check.same("22: keys, and values that run over", seen, "-5:" + (MAX - 1) + " -2:" + MAX + " 1:" + MIN + " 4:" + (MIN + 1) + " ");
        Check.same("22: the key at hand stays", s.get(), MAX - 1);
        Check.fails("22: some are there", STATE, load(s, 1, 1, 1));
        Check.fails("22: some are there, and all else is wrong", STATE, load(s, 0, -1, 1));
        Check.fails("22: some are there, none asked", STATE, load(s, 1, 0, 1));
        Check.fails("22: pairs", STATE, load(new BranchStore(1), 1, 1, 1));
        Check.fails("22: rows, and all else is wrong", STATE, load(new BranchStore(2), 0, 1501, 1));
    }

    private static void promise22LoadAtItsEdges() {
        // first, step, n, what is due: a number of keys, or -1 IllegalArgument, -2 Unsupported
        long[][] edges = {
            {0, 1, 0, 0}, {0, 0, 0, -1}, {0, -1, 5, -1}, {0, MIN, 5, -1}, {0, 1, -1, -1}, {0, 1, -2147483648L, -1},
            {0, 1, 1500, 1500}, {0, 1, 1501, -2}, {0, 0, 1501, -1}, {0, 1, 2147483647, -2},
            {MAX, MAX, 0, 0}, {MAX, MAX, 1, 1}, {MAX, 1, 1, 1}, {MAX, 1, 2, -1}, {MAX - 1, 1, 2, 2}, {MAX - 1, 2, 2, -1},
            {MAX - 1499, 1, 1500, 1500}, {MAX - 1498, 1, 1500, -1}, {MAX - 1499, 1, 1501, -1}, {MAX - 1500, 1, 1501, -2},
            {MIN, MAX, 2, 2}, {MIN, MAX, 3, 3}, {MIN, MAX, 4, -1}, {MIN + 1, MAX, 3, 3}, {MIN + 2, MAX, 3, -1},
            {MIN + 2, MAX, 2, 2}, {0, MAX, 2, 2}, {1, MAX, 2, -1}, {-1, MAX, 2, 2}, {-1, MAX, 3, -1},
            {MIN, 1L << 62, 4, 4}, {MIN, 1L << 62, 5, -1}, {MIN, 6148914691236517205L, 4, 4}, {MIN + 1, 6148914691236517205L, 4, -1},
            {MIN, 1L << 33, 2147483647, -2}, {MIN, 1L << 34, 2147483647, -1}, {0, 1L << 32, 2147483647, -2},
            {0, 1L << 33, 2147483647, -1}, {MIN, 1, 2147483647, -2},
        };
        for (long[] e : edges) {
            BranchStore s = new BranchStore(0);
            s.number(e[0]);
            String got = Check.outcome(load(s, e[1], (int) e[2], 7));
            String due = e[3] == -1 ? "throws.IllegalArgumentException" : e[3] == -2 ? "throws.UnsupportedOperationException" : "";
            Check.same("22: load(" + e[1] + ", " + e[2] + ", 7) at " + e[0], got, due);
            Check.same("22: keys after it", s.about(0), Math.max(0, e[3]));
            if (e[3] > 0) {
                s.seek(5);
                Check.same("22: the last", cursorOf(s), (e[0] + (e[3] - 1) * e[1]) + "/" + (7 + e[3] - 1));
            }
        }
    }

    private static void promise23Compact() {
        BranchStore s = new BranchStore(0);
        int[] counts = {0, 1, 2, 4, 5, 16, 17, 48, 49, 256};
        int[] branchCells = {0, 0, 9, 9, 24, 24, 116, 116, 260, 260};
        for (int i = 0; i < counts.length; i++) {
            s.load(1, counts[i], 0);
            Check.same("23: " + counts[i] + " numbers", s.compact(), branchCells[i] + 6 * counts[i]);
            Check.same("23: nothing changes", s.compact() + "," + s.about(0), (branchCells[i] + 6 * counts[i]) + "," + counts[i]);
            s.clear();
        }
        BranchStore pairs = new BranchStore(1);
        pairs.put(1);
        Check.same("23: a pair", pairs.compact(), 8);
        // The codes have 2, 3, 4, 6 and 7 bytes, and 50.
        String[] keys = {"", "a", "\0", "abcd", "abc\0", "\0\0\0\0\0\0\0\0\0\0\0\0\0\0\0\0\0\0\0\0\0\0\0\0"};
        int[] due = {5, 5, 5, 6, 6, 17};
        for (int i = 0; i < keys.length; i++) {
            Check.same("23: row " + i, rows(keys[i]).compact(), due[i]);
        }
        Check.same("23: a code of 5 bytes", rows("abc").compact(), 6);
    }

    private static String sizesOf(BranchStore s) {
        return s.about(1) + " " + s.about(2) + " " + s.about(3) + " " + s.about(4);
    }

    private static void promise24AboutSizes() {
        int[] counts = {0, 1, 2, 4, 5, 16, 17, 48, 49, 256, 257, 512};
        String[] due = {
            "0 0 0 0", "0 0 0 0", "1 0 0 0", "1 0 0 0", "0 1 0 0", "0 1 0 0", "0 0 1 0", "0 0 1 0",
            "0 0 0 1", "0 0 0 1", "1 0 0 1", "1 0 0 2",
        };
        for (int i = 0; i < counts.length; i++) {
            BranchStore s = new BranchStore(0);
            s.load(1, counts[i], 0);
            Check.same("24: keys", s.about(0), counts[i]);
            Check.same("24: sizes with " + counts[i], sizesOf(s), due[i]);
        }
        BranchStore s = new BranchStore(0);
        s.load(1L << 56, 49, 0);
        Check.same("24: children of the branch without bytes", s.about(7) + ", " + sizesOf(s), "49, 0 0 0 1");
        for (int left = 48; left >= 0; left--) {
            s.seek(5);
            s.take();
            s.remove();
            String due2 = left > 16 ? "0 0 1 0" : left > 4 ? "0 1 0 0" : left > 1 ? "1 0 0 0" : "0 0 0 0";
            Check.same("24: with " + left + " left", s.about(7) + ", " + sizesOf(s), (left > 1 ? left : 0) + ", " + due2);
        }
        Check.fails("24: -1", ARGUMENT, () -> s.about(-1));
        Check.fails("24: 8", ARGUMENT, () -> s.about(8));
    }

    private static void promise24AboutDepths() {
        BranchStore s = new BranchStore(0);
        Check.same("24: nothing is deep", s.about(5) + "," + s.about(6) + "," + s.about(7), "0,-1,0");
        s.put(1);
        Check.same("24: one key", s.about(5) + "," + s.about(6) + "," + s.about(7), "0,0,0");
        // 0 shares less and less with each of these: a branch for every one of the eight bytes.
        for (int i = 0; i < 8; i++) {
            s.number(1L << (8 * i));
            s.put(i);
        }
        Check.same("24: the deepest", s.about(5) + "," + s.about(7) + ", " + sizesOf(s), "8,2, 8 0 0 0");
        for (int i = 0; i < 8; i++) {
            s.number(1L << (8 * i));
            Check.same("24: depth of bit " + 8 * i, s.about(6), 8 - i);
        }
        s.number(0);
        Check.same("24: depth of 0", s.about(6), 8);
        s.number(2);
        Check.same("24: not there", s.about(6), BranchStore.NONE);
        s.number(MIN);
        s.put(1);
        Check.same("24: a third child of the branch without bytes", s.about(6) + "," + s.about(7), "1,3");
        // The deep keys are the least ones here, and the branch above them shows only behind them.
        BranchStore left = numbers(0, 1, 256, 257, 65536);
        Check.same("24: the deepest is on the left", left.about(5) + ", " + sizesOf(left), "3, 4 0 0 0");
        BranchStore right = numbers(0, 65536, 65537, 65792);
        Check.same("24: the deepest is on the right", right.about(5) + ", " + sizesOf(right), "3, 3 0 0 0");
        BranchStore middle = numbers(0, 65536, 65537, 65792, 131072);
        Check.same("24: the deepest is in the middle", middle.about(5) + ", " + sizesOf(middle), "3, 3 0 0 0");
        BranchStore first = numbers(0, 1, 256, 65536, 65537, 131072);
        Check.same("24: the middle is less deep than the left", first.about(5) + ", " + sizesOf(first), "3, 4 0 0 0");
    }

    private static void promise24AboutRows() {
        // 0 0 against 0 255 0 0: what they share is the one byte 0, not the branch without bytes.
        BranchStore s = rows("", "\0");
        Check.same("24: the empty row and 0", s.about(7) + "," + s.about(5) + ", " + sizesOf(s), "0,1, 1 0 0 0");
        row(s, "\1");
        s.put(1);
        Check.same("24: and 1", s.about(7) + "," + s.about(5) + ", " + sizesOf(s), "2,2, 2 0 0 0");
        Check.same("24: depth of 1", s.about(6), 1);
        row(s, "");
        Check.same("24: depth of the empty row", s.about(6), 2);
        row(s, "\u00ff");
        Check.same("24: not there", s.about(6), -1);
        s.put(1);
        Check.same("24: three children", s.about(7), 3);
        // Each row of zeros goes on where the one before ends: 24 branches above the longest.
        BranchStore zeros = new BranchStore(2);
        zeros.put(0);
        for (int i = 1; i <= 24; i++) {
            zeros.letter(0);
            zeros.put(i);
        }
        Check.same("24: rows of zeros", zeros.about(5) + "," + zeros.about(6) + "," + zeros.about(1) + "," + zeros.about(7), "24,24,24,0");
        zeros.erase();
        Check.same("24: the empty one of them", zeros.about(6), 1);
        BranchStore twins = rows("\0\0\0\0\0\0\0\0\0\0\0\0\0\0\0\0\0\0\0\0\0\0\0\0", "\0\0\0\0\0\0\0\0\0\0\0\0\0\0\0\0\0\0\0\0\0\0\0");
        Check.same("24: two rows that share 47 bytes", twins.about(5) + ", " + sizesOf(twins) + ", " + twins.compact(), "1, 1 0 0 0, 42");
    }

    private static void promise25Clear() {
        BranchStore s = numbers(1, 2, 3);
        s.number(2);
        s.keep();
        s.seek(0);
        s.number(3);
        Check.same("25: how many", s.clear() + "," + s.about(0) + "," + s.compact() + "," + s.about(1), "3,0,0,0");
        Check.same("25: again", s.clear(), 0);
        Check.same("25: the cursor stays", s.part(0) + "," + s.there(), "2,false");
        s.put(5);
        Check.same("25: the key at hand stays", s.move(true) + "," + cursorOf(s), "true,3/5");
        s.number(1);
        s.put(6);
        s.number(3);
        Check.same("25: the other key stays", s.range(), 1);
    }
}
