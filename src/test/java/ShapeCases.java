/** Promises 23 to 25: the tree's shape, and its end. */
final class ShapeCases extends Cases {
    private ShapeCases() {
    }

    static void run(Document document) {
        document.test("Promise 23: compact", "Everything moves together: how many CELLS all branches and keys have.", ShapeCases::compact);
        document.test("Promise 24: about", "How many: 0 keys, 1 .. 4 branches of size 0 .. 3; 5 how deep the deepest key is (0 without "
            + "keys); 6 how deep that at hand is, if it is there (NONE if not); 7 how many children the branch without bytes has (0 if it "
            + "is none).", ShapeCases::about);
        document.test("Promise 24: about", "IllegalArgumentException: it is none of these.", ShapeCases::aboutNothing);
        document.test("Promise 25: clear", "All keys go: how many there were.", ShapeCases::clear);
        document.test("Promise 25: clear", "The cursor, and the keys at hand, stay.", ShapeCases::clearLeavesTheRest);
    }

    private static void compact() {
        for (int sort = 0; sort < 3; sort++) {
            answers(ofSort(sort)[1], 0, "compact with no key there", s -> s.compact());
            answers(ofSort(sort)[1].with(1, first(sort)), new int[] {6, 8, 5}[sort], "compact of one key", s -> s.compact());
        }
        // Three branches of two; a branch of 1 and 2 and one of two seconds; a branch of 0, a and b, and one behind a and one behind a 0.
        answers(someNumbers(), 3 * 9 + 4 * 6, "compact", s -> s.compact());
        answers(somePairs(), 2 * 9 + 3 * 8, "compact", s -> s.compact());
        answers(someRows(), 2 * 9 + 5 + 5 + 6 + 5, "compact", s -> s.compact());
        // Of the even numbers to 2998, 128 each begin with one of 11 bytes, and 92 with a twelfth.
        answers(full(), 24 + 12 * 260 + 1500 * 6, "compact of 1500 keys", s -> s.compact());
        changes(full(), full().withoutKeys(), 0, "compact when 1500 keys have gone", s -> {
            s.clear();
            return s.compact();
        });
        answers(someNumbers(), "51 51", "compact, twice", s -> s.compact() + " " + s.compact());
        Situation before = someNumbers();
        changes(before, before.with(1, 6), "51 57", "compact before a key comes, and behind", s -> {
            int cells = s.compact();
            s.put(1);
            return cells + " " + s.compact();
        });
    }

    private static String allOf(BranchStore s) {
        StringBuilder all = new StringBuilder();
        for (int what = 0; what < 8; what++) {
            all.append(what == 0 ? "" : " ").append(s.about(what));
        }
        return all.toString();
    }

    private static void tells(Situation before, String due) {
        answers(before, due, "about(0) to about(7)", ShapeCases::allOf);
    }

    private static void about() {
        Check.same("NONE", BranchStore.NONE, -1);
        for (int sort = 0; sort < 3; sort++) {
            Situation none = ofSort(sort)[1];
            tells(none, "0 0 0 0 0 0 -1 0");
            tells(none.with(1, first(sort)), "1 0 0 0 0 0 0 0");
        }
        tells(Situation.numbers().with(1, 0).hand(1), "1 0 0 0 0 0 -1 0");
        tells(someNumbers(), "4 3 0 0 0 3 -1 2");
        tells(someNumbers().hand(-7), "4 3 0 0 0 3 1 2");
        tells(someNumbers().hand(5), "4 3 0 0 0 3 3 2");
        tells(someNumbers().hand(300), "4 3 0 0 0 3 2 2");
        tells(someNumbers().without(-7).hand(5), "3 2 0 0 0 2 2 0");
        tells(somePairs().hand(1, 4), "3 2 0 0 0 2 2 0");
        tells(somePairs().hand(2, MIN), "3 2 0 0 0 2 1 0");
        tells(somePairs().with(1, MIN, 0).hand(MIN, 0), "4 3 0 0 0 3 1 2");
        tells(someRows(), "4 2 0 0 0 2 -1 3");
        tells(someRows().hand(row("")), "4 2 0 0 0 2 1 3");
        tells(someRows().hand(row("a\0")), "4 2 0 0 0 2 2 3");
        tells(full().hand(2998), "1500 0 1 0 12 2 2 0");
        tells(full().hand(2999), "1500 0 1 0 12 2 -1 0");
        aboutTheDeepest();
        aboutTheBranchWithoutBytes();
        aboutAfterChanges();
    }

    private static Situation numbersOf(long... keys) {
        Situation all = Situation.numbers().hand(keys[0]);
        for (long key : keys) {
            all = all.with(0, key);
        }
        return all;
    }

    /** Wherever the deepest key stands among the others. */
    private static void aboutTheDeepest() {
        tells(numbersOf(0, 1, 256, 257, 65536), "5 4 0 0 0 3 3 0");
        tells(numbersOf(0, 65536, 65537, 65792), "4 3 0 0 0 3 1 0");
        tells(numbersOf(0, 65536, 65537, 65792, 131072), "5 3 0 0 0 3 1 0");
        tells(numbersOf(0, 1, 256, 65536, 65537, 131072), "6 4 0 0 0 3 3 0");
        tells(numbersOf(0, 65536, 131072, 131073, 131328), "5 3 0 0 0 3 1 0");
    }

    private static void aboutTheBranchWithoutBytes() {
        int[] children = {2, 3, 4, 5, 16, 17, 48, 49, 255, 256};
        for (int n : children) {
            Situation before = Situation.numbers().loaded(MIN, 1L << 56, n, 0);
            answers(before, n, "about(7)", s -> s.about(7));
        }
        answers(Situation.numbers().loaded(MIN, 1L << 56, 1, 0), 0, "about(7) with one key", s -> s.about(7));
        answers(Situation.numbers().with(0, 0).with(0, (1L << 56) - 1), 0, "about(7) with two keys of one first byte", s -> s.about(7));
        answers(Situation.numbers().with(0, (1L << 56) - 1).with(0, 1L << 56), 2, "about(7) with two first bytes", s -> s.about(7));
        answers(Situation.numbers().with(0, MIN).with(0, MAX), 2, "about(7) with the least key and the greatest", s -> s.about(7));
    }

    private static void aboutAfterChanges() {
        Situation before = Situation.numbers().with(1, 1).with(2, 2).with(3, 256).hand(2);
        changes(before, before.without(2), "3 2 0 0 0 2 2 0, 2 1 0 0 0 1 -1 0", "about before a key goes, and behind", s -> {
            String all = allOf(s);
            s.remove();
            return all + ", " + allOf(s);
        });
        changes(before, before.withoutKeys().with(9, 2), "1 0 0 0 0 0 0 0", "about when one key came after a clear", s -> {
            s.about(1);
            s.clear();
            s.put(9);
            return allOf(s);
        });
        Situation ends = Situation.numbers().with(1, MIN).with(2, MAX).with(3, MAX - 1).hand(MIN);
        changes(ends, ends.without(MIN), "2 0", "about(7) before the branch without bytes goes, and behind", s -> {
            int children = s.about(7);
            s.remove();
            return children + " " + s.about(7);
        });
        Situation range = before.other(0);
        changes(range, range.without(1).without(2), "3, 1 0 0 0 0 0 -1 0", "about before a cut, and behind", s -> {
            int keys = s.about(0);
            s.cut();
            return keys + ", " + allOf(s);
        });
        Situation none = Situation.numbers();
        changes(none, none.loaded(0, 1, 5, 0), "0, 5 0 1 0 0 1 1 0", "about before a load, and behind", s -> {
            int branches = s.about(2);
            s.load(1, 5, 0);
            return branches + ", " + allOf(s);
        });
    }

    private static void aboutNothing() {
        int[] nothing = {-1, 8, 9, -8, 256, LEAST, MOST};
        for (int what : nothing) {
            for (int sort = 0; sort < 3; sort++) {
                for (Situation before : ofSort(sort)) {
                    refused(before, ARGUMENT, "about(" + what + ")", s -> s.about(what));
                }
            }
            refused(full(), ARGUMENT, "about(" + what + ")", s -> s.about(what));
        }
    }

    private static void clear() {
        for (int sort = 0; sort < 3; sort++) {
            Situation none = ofSort(sort)[1];
            answers(none, 0, "clear with no key there", s -> s.clear());
            changes(none.with(1, first(sort)), none, 1, "clear of one key", s -> s.clear());
        }
        changes(full(), full().withoutKeys(), 1500, "clear of 1500 keys", s -> s.clear());
        changes(full(), full().withoutKeys(), 0, "clear for the second time", s -> {
            s.clear();
            return s.clear();
        });
        Situation again = Situation.numbers();
        changes(again, again, 1500, "clear of 1500 keys once more", s -> {
            s.load(1, 1500, 0);
            s.clear();
            s.load(2, 1500, 0);
            return s.clear();
        });
    }

    private static void clearLeavesTheRest() {
        int[] counts = {4, 3, 4};
        for (int sort = 0; sort < 3; sort++) {
            Situation gone = ofSort(sort)[0];
            Situation at = ofSort(sort)[2];
            changes(gone, gone.withoutKeys(), counts[sort], "clear, the cursor's key not being there", s -> s.clear());
            changes(at, at.withoutKeys(), counts[sort], "clear, the cursor's key being there", s -> s.clear());
        }
        for (Situation none : withoutCursor()) {
            int keys = none.made().about(0);
            changes(none, none.withoutKeys(), keys, "clear, the cursor being at none", s -> s.clear());
        }
        Situation row = someRows().hand(row(times(24, "\0"))).other(row(times(24, "\u00ff"))).cursor(row(times(23, "\0")));
        changes(row, row.withoutKeys(), 4, "clear, with long rows at hand", s -> s.clear());
    }
}
