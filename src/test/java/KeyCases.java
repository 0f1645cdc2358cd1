/** Promises 1 to 7: a new object, and the keys at hand. */
final class KeyCases extends Cases {
    private static final long[] NUMBERS = {MIN, MIN + 1, -1, 0, 1, MAX - 1, MAX};
    private static final int[] NO_BYTES = {-1, 256, -255, -256, 257, 511, 353, 65536, LEAST, LEAST + 97, MOST};

    private KeyCases() {
    }

    static void run(Document document) {
        String anotherSort = "IllegalStateException: keys are of another sort.";
        document.test("Promise 1: A new object", "An empty store of keys of a sort (its remainder by 3, from 0 on).", KeyCases::aNewObject);
        document.test("Promise 2: number", "The key at hand is a number.", KeyCases::aNumber);
        document.test("Promise 2: number", anotherSort, KeyCases::aNumberOfAnotherSort);
        document.test("Promise 3: pair", "The key at hand is a pair.", KeyCases::aPair);
        document.test("Promise 3: pair", anotherSort, KeyCases::aPairOfAnotherSort);
        document.test("Promise 4: letter", "A byte comes behind the row at hand: how many it has.", KeyCases::aLetter);
        document.test("Promise 4: letter", anotherSort, KeyCases::aLetterOfAnotherSort);
        document.test("Promise 4: letter", "IllegalArgumentException: it is not 0 .. 255.", KeyCases::aLetterThatIsNoByte);
        document.test("Promise 4: letter", "UnsupportedOperationException: it has 24.", KeyCases::aLetterTooMany);
        document.test("Promise 5: erase", "The key at hand is the first one again (0, 0 and 0, the empty row).", KeyCases::erase);
        document.test("Promise 6: keep", "The key at hand is the other key, too.", KeyCases::keep);
        document.test("Promise 7: take", "The key at hand becomes that of the cursor.", KeyCases::take);
        document.test("Promise 7: take", "NoSuchElementException: the cursor is at none.", KeyCases::takeFromNone);
    }

    private static void aNewObject() {
        int[] told = {0, 1, 2, 3, 4, 5, -1, -2, -3, -4, -5, -6, 300, 301, MOST, MOST - 1, MOST - 2, LEAST, LEAST + 1, LEAST + 2};
        int[] due = {0, 1, 2, 0, 1, 2, 2, 1, 0, 2, 1, 0, 0, 1, 1, 0, 2, 1, 2, 0};
        for (int i = 0; i < told.length; i++) {
            Situation.ofSort(due[i]).isThatOf("new BranchStore(" + told[i] + ")", new BranchStore(told[i]));
            BranchStore s = new BranchStore(told[i]);
            Check.same("number, the sort told being " + told[i], Check.outcome(() -> {
                s.number(0);
                return "";
            }), due[i] == 0 ? "" : "throws.IllegalStateException");
            Check.same("letter, the sort told being " + told[i], Check.outcome(() -> s.letter(0)),
                due[i] == 2 ? "1" : "throws.IllegalStateException");
        }
    }

    private static void aNumber() {
        for (Situation before : ofSort(0)) {
            for (long a : NUMBERS) {
                does(before, before.hand(a), "number(" + a + ")", s -> s.number(a));
            }
        }
        does(full(), full().hand(MIN), "number of a full store", s -> s.number(MIN));
    }

    private static void aNumberOfAnotherSort() {
        for (int sort = 1; sort < 3; sort++) {
            for (Situation before : ofSort(sort)) {
                for (long a : NUMBERS) {
                    refused(before, STATE, "number(" + a + ")", s -> s.number(a));
                }
            }
        }
    }

    private static void aPair() {
        for (Situation before : ofSort(1)) {
            for (long a : NUMBERS) {
                for (long b : NUMBERS) {
                    does(before, before.hand(a, b), "pair(" + a + ", " + b + ")", s -> s.pair(a, b));
                }
            }
        }
    }

    private static void aPairOfAnotherSort() {
        for (int sort = 0; sort < 3; sort += 2) {
            for (Situation before : ofSort(sort)) {
                for (long a : NUMBERS) {
                    refused(before, STATE, "pair(" + a + ", 1)", s -> s.pair(a, 1));
                }
            }
        }
    }

    private static void aLetter() {
        int[] bytes = {0, 1, 97, 127, 128, 254, 255};
        String[] rows = {"", "\0", "\u00ff", "a\0", times(23, "\0"), times(23, "\u00ff"), times(11, "a\0") + "a"};
        for (String row : rows) {
            for (int c : bytes) {
                Situation before = someRows().hand(row(row));
                changes(before, before.hand(row(row + (char) c)), row.length() + 1, "letter(" + c + ")", s -> s.letter(c));
            }
        }
        for (int c : bytes) {
            BranchStore s = new BranchStore(2);
            for (int i = 1; i <= 24; i++) {
                Check.same("letter(" + c + "), for the " + i + "th time", s.letter(c), i);
            }
        }
    }

    private static void aLetterOfAnotherSort() {
        for (int sort = 0; sort < 2; sort++) {
            for (Situation before : ofSort(sort)) {
                refused(before, STATE, "letter(0)", s -> s.letter(0));
                refused(before, STATE, "letter(255)", s -> s.letter(255));
                refused(before, STATE, "letter(256), no byte, too", s -> s.letter(256));
                refused(before, STATE, "letter(-1), no byte, too", s -> s.letter(-1));
            }
        }
    }

    private static void aLetterThatIsNoByte() {
        String[] rows = {"", "a\0", times(23, "\0"), times(24, "\0"), times(24, "\u00ff")};
        for (String row : rows) {
            for (int c : NO_BYTES) {
                refused(someRows().hand(row(row)), ARGUMENT, "letter(" + c + ")", s -> s.letter(c));
            }
        }
    }

    private static void aLetterTooMany() {
        String[] rows = {times(24, "\0"), times(24, "\1"), times(24, "\u00ff"), times(12, "a\0"), times(12, "\0a")};
        for (String row : rows) {
            Situation before = someRows().hand(row(row));
            refused(before, FULL, "letter(0)", s -> s.letter(0));
            refused(before, FULL, "letter(255)", s -> s.letter(255));
            changes(before, before.hand(row("\0")), 1, "letter(0) when the row has been erased", s -> {
                s.erase();
                return s.letter(0);
            });
            Situation taken = before.hand().cursor(row(row));
            changes(taken, taken.hand(row(row)), "throws.UnsupportedOperationException", "letter(0) behind a full row taken", s -> {
                s.take();
                return s.letter(0);
            });
        }
    }

    private static void erase() {
        for (int sort = 0; sort < 3; sort++) {
            for (Situation before : ofSort(sort)) {
                does(before, before.hand(first(sort)), "erase", s -> s.erase());
            }
        }
        does(someNumbers().hand(MIN), someNumbers().hand(0), "erase", s -> s.erase());
        does(somePairs().hand(MAX, MIN), somePairs().hand(0, 0), "erase", s -> s.erase());
        does(somePairs().hand(0, 1), somePairs().hand(0, 0), "erase", s -> s.erase());
        does(someRows().hand(row(times(24, "\u00ff"))), someRows().hand(), "erase of a full row", s -> s.erase());
        does(someRows().hand(row("\0")), someRows().hand(), "erase of a single 0", s -> s.erase());
    }

    private static void keep() {
        long[][][] keys = {
            {{MIN}, {-1}, {0}, {6}, {MAX}},
            {{MIN, MIN}, {MIN, MAX}, {0, 0}, {1, 4}, {MAX, MIN}, {MAX, MAX}},
            {row(""), row("\0"), row(times(24, "\0")), row(times(23, "\0")), row(times(24, "\u00ff")), row("a\0")},
        };
        for (int sort = 0; sort < 3; sort++) {
            for (Situation before : ofSort(sort)) {
                for (long[] key : keys[sort]) {
                    Situation here = before.hand(key);
                    does(here, here.other(key), "keep", s -> s.keep());
                    does(here, here.other(key).hand(first(sort)), "keep, and erase", s -> {
                        s.keep();
                        s.erase();
                    });
                }
            }
        }
        Situation letters = someRows().hand(row("a"));
        does(letters, letters.other(row("a")).hand(row("ab")), "keep, and a letter that is not the other key's", s -> {
            s.keep();
            s.letter('b');
        });
    }

    private static void take() {
        does(someNumbers(), someNumbers().hand(300), "take", s -> s.take());
        does(somePairs(), somePairs().hand(2, MIN), "take", s -> s.take());
        does(someRows(), someRows().hand(row("b")), "take", s -> s.take());
        does(someNumbers().cursor(6), someNumbers().cursor(6), "take of the key at hand, not there", s -> s.take());
        does(someNumbers().cursor(MIN), someNumbers().cursor(MIN).hand(MIN), "take of a key that is not there", s -> s.take());
        does(somePairs().cursor(MAX, MAX), somePairs().cursor(MAX, MAX).hand(MAX, MAX), "take of a key that is not there", s -> s.take());
        String[] rows = {"", "\0", times(24, "\0"), times(24, "\u00ff"), "a\0"};
        for (String row : rows) {
            Situation before = someRows().cursor(row(row));
            does(before, before.hand(row(row)), "take", s -> s.take());
        }
        Situation none = Situation.numbers().cursor(9);
        does(none, none.hand(9), "take with no key there", s -> s.take());
        Situation letters = someRows().cursor(row("a"));
        does(letters, letters.hand(row("ab")), "take, and a letter behind that is not the cursor's", s -> {
            s.take();
            s.letter('b');
        });
    }

    private static void takeFromNone() {
        for (Situation none : withoutCursor()) {
            refused(none, ABSENT, "take", s -> s.take());
        }
        refused(Situation.numbers().hand(-4), ABSENT, "take", s -> s.take());
        refused(Situation.pairs().hand(-4, 1), ABSENT, "take", s -> s.take());
        refused(Situation.rows().hand(row("a\0")), ABSENT, "take", s -> s.take());
        Situation sought = Situation.numbers().with(1, 5).hand(5);
        refused(sought, ABSENT, "take when seek has found none", s -> {
            s.seek(3);
            s.take();
        });
    }
}
