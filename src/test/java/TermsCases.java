/** What the document says before its promises. */
final class TermsCases extends Cases {
    private TermsCases() {
    }

    static void run(Document document) {
        String about = "What it is";
        document.test(about, "A store of numbers under keys that are numbers, pairs of numbers, or rows of bytes, in a tree that "
            + "branches by the bytes of the keys' codes, with nodes of four sizes; keys are found, counted, gone through and cut out "
            + "in their order, and the tree's shape is told.", TermsCases::aWalkThroughIt);
        document.test(about, "An object is used for at most 512 calls after it has been made; what later calls answer is free.",
            TermsCases::theLastCalls);
        String terms = "Terms";
        document.test(terms, "KEYS are of one SORT for a store's life: 0 NUMBERS (longs), 1 PAIRS of numbers, ordered by the first, "
            + "then by the second, 2 ROWS of 0 .. 24 BYTES (0 .. 255), ordered by the first byte in which they differ, one that ends "
            + "before another one differs being less.", TermsCases::sortsAndOrders);
        document.test(terms, "There are at most 1500.", TermsCases::atMost1500);
        document.test(terms, "Each has a VALUE, a long.", TermsCases::valuesAreLongs);
        document.test(terms, "THE KEY AT HAND is told part by part; at first it is 0, the pair 0, 0, or the empty row.",
            TermsCases::theFirstKeyAtHand);
        document.test(terms, "THE OTHER KEY is one that was kept, at first the same.", TermsCases::theOtherKey);
        document.test(terms, "THE CURSOR is at no key at first; it stays at its key even when that is there no more.",
            TermsCases::theCursorStays);
        document.test(terms, "THE CODE of a key is a row of bytes: of a number 8, the highest first, the highest bit of the first one "
            + "turned; of a pair those of both; of a row its bytes, 0 being 0 and 255, and behind all of them 0 and 0.", TermsCases::codes);
        document.test(terms, "A BRANCH is a row of bytes behind which, in codes of keys that there are, at least two different bytes "
            + "come; these are its CHILDREN.", TermsCases::branches);
        document.test(terms, "Its SIZE is 0 with 2 to 4 children, 1 with up to 16, 2 with up to 48, 3 with more.", TermsCases::sizes);
        document.test(terms, "A key is as DEEP as there are branches with which its code begins.", TermsCases::depths);
        document.test(terms, "CELLS: 9, 24, 116 and 260 for a branch of size 0, 1, 2 and 3; for a key 4 and a quarter of its code's "
            + "bytes, rounded up.", TermsCases::cells);
        document.test(terms, "A call that throws changes nothing; of several exceptions that fit the one named first is thrown.",
            TermsCases::theFirstNamedOfSeveral);
    }

    private static void aWalkThroughIt() {
        answers(someNumbers().hand(0), 12, "get", s -> s.get());
        answers(someNumbers().hand(301), 4, "rank", s -> s.rank());
        changes(someNumbers().cursor(0), someNumbers().cursor(5), true, "move on", s -> s.move(true));
        changes(someNumbers(), someNumbers().without(-7).without(0).without(5), 3, "cut", s -> s.cut());
        answers(someNumbers(), "3 0 0 0", "branches of all sizes", TermsCases::sizesOf);
    }

    private static String sizesOf(BranchStore s) {
        return s.about(1) + " " + s.about(2) + " " + s.about(3) + " " + s.about(4);
    }

    private static void theLastCalls() {
        BranchStore numbers = new BranchStore(0);
        for (int i = 0; i < 255; i++) {
            numbers.number(i);
            numbers.put(i);
        }
        Check.same("the 511th call", numbers.about(0), 255);
        Check.same("the 512th call", numbers.compact(), 260 + 255 * 6);
        BranchStore rows = new BranchStore(2);
        for (int i = 0; i < 510; i++) {
            Check.same("call " + i, Check.outcome(() -> rows.letter(0)), i < 24 ? i + 1 : "throws.UnsupportedOperationException");
        }
        Check.same("the 511th call", rows.put(1), true);
        Check.same("the 512th call", rows.compact(), 17);
        BranchStore full = new BranchStore(0);
        full.load(1, 1500, 0);
        for (int k = 0; k < 255; k++) {
            full.number(k);
            Check.same("the key " + k + " of a full store", full.remove(), k);
        }
        Check.same("the 512th call", full.about(0), 1500 - 255);
    }

    private static void sortsAndOrders() {
        for (int sort = 0; sort < 3; sort++) {
            BranchStore s = ofSort(sort)[2].made();
            s.clear();
            s.erase();
            Check.same("numbers later on", Check.outcome(() -> told(s, 0)), sort == 0 ? "" : "throws.IllegalStateException");
            Check.same("pairs later on", Check.outcome(() -> told(s, 1)), sort == 1 ? "" : "throws.IllegalStateException");
            Check.same("rows later on", Check.outcome(() -> told(s, 2)), sort == 2 ? "" : "throws.IllegalStateException");
        }
        ordered(Situation.numbers(), new long[][] {{MIN}, {MIN + 1}, {-256}, {-1}, {0}, {1}, {255}, {256}, {MAX - 1}, {MAX}});
        ordered(Situation.pairs(), new long[][] {
            {MIN, MIN}, {MIN, MAX}, {-1, MIN}, {-1, MAX}, {0, MIN}, {0, -1}, {0, 0}, {0, 1}, {0, MAX}, {1, MIN}, {MAX, MIN}, {MAX, MAX},
        });
        String zeros = times(23, "\0");
        String highest = times(23, "\u00ff");
        ordered(Situation.rows(), rowsOf("", "\0", zeros, zeros + "\0", zeros + "\1", "\0\1", "\0\u00ff", "\1", "\1\0", "\1\1"));
        ordered(Situation.rows(), rowsOf("a", "a\0", "aa", "ab", "b", "\u007f", "\u0080", "\u00ff"));
        ordered(Situation.rows(), rowsOf("\u00fe", "\u00ff", highest, highest + "\0", highest + "\1", highest + "\u00ff"));
    }

    private static String told(BranchStore s, int sort) {
        if (sort == 0) {
            s.number(1);
        } else if (sort == 1) {
            s.pair(1, 1);
        } else {
            s.letter(1);
        }
        return "";
    }

    private static long[][] rowsOf(String... letters) {
        long[][] rows = new long[letters.length][];
        for (int i = 0; i < letters.length; i++) {
            rows[i] = row(letters[i]);
        }
        return rows;
    }

    /** Each key comes to its place, whichever is put first. */
    private static void ordered(Situation none, long[][] keys) {
        Situation all = none;
        for (int i = keys.length - 1; i >= 0; i--) {
            all = all.with(i, keys[i]);
        }
        for (int i = 0; i < keys.length; i++) {
            Situation here = all.hand(keys[i]);
            Check.same("rank of " + here, here.made().rank(), i);
            int place = i;
            does(all, all.cursor(keys[i]), "select(" + place + ")", s -> s.select(place));
            changes(here.without(keys[i]), here, true, "put", s -> s.put(place));
        }
    }

    private static void atMost1500() {
        answers(full(), 1500, "about(0)", s -> s.about(0));
        refused(full().hand(1), FULL, "put", s -> s.put(1));
        refused(Situation.numbers(), FULL, "load of 1501", s -> s.load(1, 1501, 1));
    }

    private static void valuesAreLongs() {
        long[] values = {MIN, MIN + 1, -1, 0, 1, 1L << 32, MAX - 1, MAX};
        for (long v : values) {
            for (int sort = 0; sort < 3; sort++) {
                Situation before = ofSort(sort)[1];
                long[] first = first(sort);
                Situation after = before.with(v, first);
                changes(before, after, true, "put(" + v + ")", s -> s.put(v));
                answers(after, v, "get", s -> s.get());
                changes(after, before, v, "remove", s -> s.remove());
                answers(after.cursor(first), v, "value", s -> s.value());
            }
        }
    }

    private static void theFirstKeyAtHand() {
        for (int sort = 0; sort < 3; sort++) {
            BranchStore s = new BranchStore(sort);
            s.put(1);
            s.seek(4);
            Check.same("parts of the first key of sort " + sort, s.length(), sort == 2 ? 0 : sort + 1);
            for (int i = 0; i < s.length(); i++) {
                Check.same("part " + i + " of the first key of sort " + sort, s.part(i), 0);
            }
        }
        Situation row = Situation.rows();
        changes(row, row.hand(row("abc")), "123", "letters one by one", s -> "" + s.letter('a') + s.letter('b') + s.letter('c'));
    }

    private static void theOtherKey() {
        for (int sort = 0; sort < 3; sort++) {
            BranchStore s = new BranchStore(sort);
            Check.same("none between the first and the first", s.range(), 0);
            s.put(1);
            Check.same("the first one itself is", s.range(), 1);
        }
        Situation numbers = Situation.numbers().with(1, -1).with(2, 0).with(3, 1);
        answers(numbers.hand(1), 2, "range from the first key on", s -> s.range());
        answers(numbers.hand(-1), 0, "range that ends before the first key", s -> s.range());
        answers(numbers.other(-1).hand(1), 3, "range from a kept key on", s -> s.range());
    }

    private static void theCursorStays() {
        for (Situation none : withoutCursor()) {
            answers(none, false, "there", s -> s.there());
            refused(none, ABSENT, "length", s -> s.length());
        }
        Situation at = someNumbers().hand(5).cursor(5);
        changes(at, at.without(5), 13L, "remove of its key", s -> s.remove());
        changes(at, someNumbers().withoutKeys().hand(5).cursor(5), 4, "clear", s -> s.clear());
        Situation between = at.other(0);
        changes(between, between.without(0).without(5), 2, "cut of its key and one more", s -> s.cut());
        changes(at.without(5), at.with(6, 5), true, "put of its key again", s -> s.put(6));
    }

    private static void codes() {
        for (int i = 0; i < 8; i++) {
            // The keys differ in the byte i, counted from the lowest, at its lowest bit and at its highest.
            Situation low = Situation.numbers().with(0, 0).with(0, 1L << 8 * i);
            Situation high = Situation.numbers().with(0, 0).with(0, 128L << 8 * i);
            answers(low, i == 7 ? 2 : 0, "children of the branch without bytes", s -> s.about(7));
            answers(high, i == 7 ? 2 : 0, "children of the branch without bytes", s -> s.about(7));
        }
        Situation around = Situation.numbers().with(0, -1).with(0, 0);
        answers(around, 2, "children of the branch without bytes", s -> s.about(7));
        changes(around, around.cursor(-1), true, "seek(4), the highest bit being turned", s -> s.seek(4));
        answers(zeroAndANumberForEachByte(), 8, "depth of a number that differs from others in every byte", s -> s.about(6));
        answers(zeroAndAPairForEachByte(), 16, "depth of a pair that differs from others in every byte", s -> s.about(6));
        Situation empty = Situation.rows().with(0, row(""));
        answers(empty.with(0, row("\1")), 2, "children behind no byte, 0 of the end and 1", s -> s.about(7));
        answers(empty.with(0, row("\0")), 0, "children behind no byte, 0 of the end and 0 of the letter", s -> s.about(7));
        answers(empty.with(0, row("\0")).with(0, row("\0\0")), 2, "depth, 0 and 0 255 0 being branches", s -> s.about(5));
        answers(Situation.rows().with(0, row("a")).with(0, row("a\0")), 1, "branches, a 0 being one", s -> s.about(1));
    }

    private static Situation zeroAndANumberForEachByte() {
        Situation all = Situation.numbers().with(0, 0);
        for (int i = 0; i < 8; i++) {
            all = all.with(0, 1L << 8 * i);
        }
        return all;
    }

    private static Situation zeroAndAPairForEachByte() {
        Situation all = Situation.pairs().with(0, 0, 0);
        for (int i = 0; i < 8; i++) {
            all = all.with(0, 1L << 8 * i, 0).with(0, 0, 1L << 8 * i);
        }
        return all;
    }

    private static void branches() {
        for (int sort = 0; sort < 3; sort++) {
            Situation none = ofSort(sort)[1];
            long[] first = first(sort);
            long[] second = sort == 2 ? row("b") : sort == 1 ? new long[] {0, 9} : new long[] {9};
            answers(none, "0 0 0 0", "branches of no key", TermsCases::sizesOf);
            answers(none.with(0, first), "0 0 0 0", "branches of one key", TermsCases::sizesOf);
            answers(none.with(0, first).with(0, second), "1 0 0 0", "branches of two keys", TermsCases::sizesOf);
            BranchStore s = none.with(0, first).with(0, second).made();
            s.remove();
            Check.same("branches when one of two keys is there no more", sizesOf(s), "0 0 0 0");
        }
        BranchStore s = Situation.numbers().with(0, 1).with(0, 2).with(0, 256).hand(2).made();
        Check.same("a branch of three keys, and one of two of them", sizesOf(s), "2 0 0 0");
        s.remove();
        Check.same("the one of two is none any more", sizesOf(s), "1 0 0 0");
    }

    private static void sizes() {
        int[] children = {1, 2, 4, 5, 16, 17, 48, 49, 255, 256};
        int[] size = {-1, 0, 0, 1, 1, 2, 2, 3, 3, 3};
        for (int i = 0; i < children.length; i++) {
            BranchStore low = Situation.numbers().loaded(0, 1, children[i], 0).made();
            Check.same(children[i] + " children of a branch of 7 bytes", sizesOf(low), oneOfSize(size[i]));
            BranchStore high = Situation.numbers().loaded(MIN, 1L << 56, children[i], 0).made();
            Check.same(children[i] + " children of the branch without bytes", sizesOf(high), oneOfSize(size[i]));
        }
        sizesAround(Situation.numbers().loaded(0, 1, 48, 0).hand(48).made(), "0 0 1 0", "0 0 0 1");
        sizesAround(Situation.numbers().loaded(0, 1, 16, 0).hand(16).made(), "0 1 0 0", "0 0 1 0");
        sizesAround(Situation.numbers().loaded(0, 1, 4, 0).hand(4).made(), "1 0 0 0", "0 1 0 0");
        sizesAround(Situation.numbers().loaded(0, 1, 1, 0).hand(1).made(), "0 0 0 0", "1 0 0 0");
        // The last byte but one has 256, 256, 256, 256, 256 and 220 children, that before it 6.
        answers(Situation.numbers().loaded(0, 256, 1500, 0), "0 1 0 6", "sizes of 1500 keys", TermsCases::sizesOf);
    }

    private static String oneOfSize(int size) {
        return (size == 0 ? 1 : 0) + " " + (size == 1 ? 1 : 0) + " " + (size == 2 ? 1 : 0) + " " + (size == 3 ? 1 : 0);
    }

    /** The key at hand is the child that makes the branch a size greater. */
    private static void sizesAround(BranchStore s, String without, String with) {
        for (int i = 0; i < 3; i++) {
            Check.same("before the child comes", sizesOf(s), without);
            s.put(1);
            Check.same("with the child", sizesOf(s), with);
            s.remove();
            Check.same("when the child has gone", sizesOf(s), without);
        }
    }

    private static void depths() {
        answers(Situation.numbers().with(0, 0), 0, "depth of the only key", s -> s.about(6));
        Situation two = Situation.numbers().with(0, 0).with(0, 1);
        answers(two, 1, "depth of one of two", s -> s.about(6));
        Situation three = two.with(0, 256);
        answers(three, 2, "depth of one of the nearer two", s -> s.about(6));
        answers(three.hand(256), 1, "depth of the one further off", s -> s.about(6));
        answers(three.with(0, -1), 3, "depth with a branch without bytes above", s -> s.about(6));
        answers(three.with(0, -1).hand(-1), 1, "depth right below the branch without bytes", s -> s.about(6));
        Situation rows = Situation.rows().with(0, row("")).with(0, row(times(24, "\0"))).with(0, row(times(23, "\0")));
        answers(rows.hand(row(times(24, "\0"))), 2, "depth of 24 zeros", s -> s.about(6));
        answers(rows, 1, "depth of the empty row", s -> s.about(6));
    }

    private static void cells() {
        int[] children = {2, 4, 5, 16, 17, 48, 49, 256};
        int[] cells = {9, 9, 24, 24, 116, 116, 260, 260};
        for (int i = 0; i < children.length; i++) {
            answers(Situation.numbers().loaded(0, 1, children[i], 0), cells[i] + 6 * children[i], "compact", s -> s.compact());
        }
        answers(Situation.numbers().with(0, MIN), 6, "compact, 8 bytes", s -> s.compact());
        answers(Situation.pairs().with(0, MIN, MAX), 8, "compact, 16 bytes", s -> s.compact());
        for (int letters = 0; letters <= 24; letters++) {
            for (int zeros = 0; zeros <= letters; zeros += Math.max(1, letters / 3)) {
                long[] key = row(times(zeros, "\0") + times(letters - zeros, "\u00ff"));
                int bytes = letters + zeros + 2;
                answers(Situation.rows().with(0, key), 4 + (bytes + 3) / 4, "compact, " + bytes + " bytes", s -> s.compact());
            }
        }
    }

    private static void theFirstNamedOfSeveral() {
        refused(someNumbers(), STATE, "letter of no row, and no byte", s -> s.letter(256));
        refused(someRows().hand(row(times(24, "a"))), ARGUMENT, "letter of a full row, and no byte", s -> s.letter(-1));
        refused(Situation.rows().with(1, row("")), ABSENT, "part at no key, and none such", s -> s.part(24));
        refused(somePairs(), STATE, "load of another sort with keys, and all else wrong", s -> s.load(0, -1, 0));
        refused(Situation.rows(), STATE, "load of another sort, and too many", s -> s.load(1, 1501, 0));
        refused(someNumbers(), STATE, "load with keys there, and a step below 1", s -> s.load(0, 1, 0));
        refused(someNumbers(), STATE, "load with keys there, and too many", s -> s.load(1, 1501, 0));
        refused(Situation.numbers().cursor(3), ARGUMENT, "load with a step below 1, and too many", s -> s.load(0, 1501, 0));
        refused(Situation.numbers().hand(MAX - 1499), ARGUMENT, "load of a last number too great, and too many", s -> s.load(1, 1501, 0));
    }
}
