/** Promises 17 to 22: keys are counted, picked out and cut out by their order, and loaded in it. */
final class OrderCases extends Cases {
    private OrderCases() {
    }

    static void run(Document document) {
        document.test("Promise 17: rank", "How many keys are less than that at hand.", OrderCases::rank);
        document.test("Promise 18: select", "The cursor comes to the key than which k are less.", OrderCases::select);
        document.test("Promise 18: select", "IndexOutOfBoundsException: there is none.", OrderCases::selectOfNone);
        document.test("Promise 19: range", "How many keys are not less than the other key and not greater than that at hand.",
            OrderCases::range);
        document.test("Promise 20: cut", "These keys go: how many there were.", OrderCases::cut);
        document.test("Promise 21: begins", "How many rows begin with that at hand (itself, too).", OrderCases::begins);
        document.test("Promise 21: begins", "IllegalStateException: keys are of another sort.", OrderCases::beginsOfAnotherSort);
        document.test("Promise 22: load", "n numbers as keys: that at hand, and step more each time, with the values value, value + 1, .. "
            + "(running over); the key at hand stays; none with n 0 (and no last number then).", OrderCases::load);
        document.test("Promise 22: load", "IllegalStateException: keys are of another sort, or some are there.", OrderCases::loadWrongly);
        document.test("Promise 22: load", "IllegalArgumentException: step is below 1, n below 0, or the last number would be above "
            + "9223372036854775807.", OrderCases::loadOfNoSuchNumbers);
        document.test("Promise 22: load", "UnsupportedOperationException: n is above 1500.", OrderCases::loadOfTooMany);
    }

    private static void rank() {
        long[] hands = {MIN, -8, -7, -6, 0, 1, 5, 6, 300, 301, MAX};
        int[] due = {0, 0, 0, 1, 1, 2, 2, 3, 3, 4, 4};
        for (int i = 0; i < hands.length; i++) {
            answers(someNumbers().hand(hands[i]), due[i], "rank", s -> s.rank());
        }
        for (int sort = 0; sort < 3; sort++) {
            Situation none = ofSort(sort)[1];
            answers(none, 0, "rank with no key there", s -> s.rank());
            answers(none.with(1, first(sort)), 0, "rank of the only key", s -> s.rank());
        }
        Situation ends = Situation.numbers().with(1, MIN).with(2, MAX);
        answers(ends.hand(MIN), 0, "rank", s -> s.rank());
        answers(ends.hand(MAX), 1, "rank", s -> s.rank());
        answers(full().hand(MIN), 0, "rank below 1500", s -> s.rank());
        answers(full().hand(2998), 1499, "rank of the greatest of 1500", s -> s.rank());
        answers(full().hand(MAX), 1500, "rank above 1500", s -> s.rank());
        rankOfPairsAndRows();
    }

    private static void rankOfPairsAndRows() {
        answers(somePairs().hand(1, MIN), 0, "rank", s -> s.rank());
        answers(somePairs().hand(1, 5), 2, "rank", s -> s.rank());
        answers(somePairs().hand(2, MIN), 2, "rank", s -> s.rank());
        answers(somePairs().hand(2, MIN + 1), 3, "rank", s -> s.rank());
        String[] hands = {"", "\0", "a", "a\0", "a\0\0", "aa", "b", "b\0", "\u00ff"};
        int[] due = {0, 1, 1, 2, 3, 3, 3, 4, 4};
        for (int i = 0; i < hands.length; i++) {
            answers(someRows().hand(row(hands[i])), due[i], "rank", s -> s.rank());
        }
    }

    private static void select() {
        long[] keys = {-7, 0, 5, 300};
        for (int k = 0; k < keys.length; k++) {
            int place = k;
            does(someNumbers(), someNumbers().cursor(keys[k]), "select(" + k + ")", s -> s.select(place));
            Situation none = Situation.numbers().with(1, -7).with(2, 0).with(3, 5).with(4, 300);
            does(none, none.cursor(keys[k]), "select(" + k + ")", s -> s.select(place));
            does(someNumbers().cursor(7), someNumbers().cursor(keys[k]), "select(" + k + ")", s -> s.select(place));
        }
        for (int sort = 0; sort < 3; sort++) {
            Situation one = ofSort(sort)[1].with(1, first(sort));
            does(one, one.cursor(first(sort)), "select(0)", s -> s.select(0));
        }
        does(somePairs(), somePairs().cursor(1, -1), "select(0)", s -> s.select(0));
        does(someRows(), someRows().cursor(row("")), "select(0)", s -> s.select(0));
        does(someRows(), someRows().cursor(row("a\0")), "select(2)", s -> s.select(2));
        does(full(), full().cursor(0), "select(0)", s -> s.select(0));
        does(full(), full().cursor(2998), "select(1499)", s -> s.select(1499));
    }

    private static void selectOfNone() {
        for (int sort = 0; sort < 3; sort++) {
            int count = sort == 1 ? 3 : 4;
            Situation[] all = ofSort(sort);
            refusedPlaces(all[0], count);
            refusedPlaces(all[1], 0);
            refusedPlaces(all[1].cursor(first(sort)), 0);
            refusedPlaces(all[2], count);
        }
        refusedPlaces(Situation.numbers().with(1, 0), 1);
        refusedPlaces(full(), 1500);
    }

    private static void refusedPlaces(Situation before, int count) {
        int[] places = {-1, count, count + 1, -count - 1, LEAST, LEAST + 1, MOST};
        for (int k : places) {
            refused(before, INDEX, "select(" + k + ")", s -> s.select(k));
        }
    }

    /** Ranges of the numbers -7, 0, 5 and 300: from, to, how many. */
    private static final long[][] RANGES = {
        {-7, 300, 4}, {-6, 299, 2}, {MIN, MAX, 4}, {MAX, MIN, 0}, {0, 0, 1}, {1, 1, 0}, {0, 5, 2}, {1, 4, 0}, {5, 0, 0}, {1, 0, 0},
        {6, 5, 0}, {300, MAX, 1}, {301, MAX, 0}, {MIN, -7, 1}, {MIN, -8, 0}, {MIN, MIN, 0}, {MAX, MAX, 0}, {300, -7, 0}, {0, MAX, 3},
    };

    private static void range() {
        for (long[] r : RANGES) {
            answers(someNumbers().other(r[0]).hand(r[1]), r[2], "range", s -> s.range());
        }
        for (int sort = 0; sort < 3; sort++) {
            Situation none = ofSort(sort)[1];
            answers(none, 0, "range with no key there", s -> s.range());
            answers(none.with(1, first(sort)), 1, "range from a key to itself", s -> s.range());
        }
        Situation ends = Situation.numbers().with(1, MIN).with(2, MAX);
        answers(ends.other(MIN).hand(MAX), 2, "range", s -> s.range());
        answers(ends.other(MIN + 1).hand(MAX - 1), 0, "range", s -> s.range());
        answers(ends.other(MAX).hand(MIN), 0, "range", s -> s.range());
        answers(ends.other(MIN).hand(MIN), 1, "range", s -> s.range());
        answers(ends.other(MAX).hand(MAX), 1, "range", s -> s.range());
        answers(full().other(MIN).hand(MAX), 1500, "range", s -> s.range());
        answers(full().other(0).hand(2998), 1500, "range", s -> s.range());
        answers(full().other(1).hand(2997), 1498, "range", s -> s.range());
        answers(somePairs().other(1, 0).hand(2, MIN), 2, "range", s -> s.range());
        answers(somePairs().other(1, 4).hand(1, MAX), 1, "range", s -> s.range());
        answers(someRows().other(row("")).hand(row("b")), 4, "range", s -> s.range());
        answers(someRows().other(row("\0")).hand(row("a\0")), 2, "range", s -> s.range());
        answers(someRows().other(row("a\0")).hand(row("a")), 0, "range", s -> s.range());
    }

    private static void cut() {
        long[] keys = {-7, 0, 5, 300};
        for (long[] r : RANGES) {
            Situation before = someNumbers().other(r[0]).hand(r[1]);
            Situation after = before;
            for (long key : keys) {
                after = r[0] <= key && key <= r[1] ? after.without(key) : after;
            }
            changes(before, after, r[2], "cut", s -> s.cut());
            changes(before, after, 0, "cut for the second time", s -> {
                s.cut();
                return s.cut();
            });
        }
        for (int sort = 0; sort < 3; sort++) {
            Situation none = ofSort(sort)[1].cursor(first(sort));
            answers(none, 0, "cut with no key there", s -> s.cut());
            changes(none.with(1, first(sort)), none, 1, "cut of the only key", s -> s.cut());
        }
        cutOfMany();
        Situation pairs = somePairs().other(1, 0).hand(2, MIN);
        changes(pairs, pairs.without(1, 4).without(2, MIN), 2, "cut", s -> s.cut());
        Situation rows = someRows().other(row("a")).hand(row("a\0"));
        changes(rows, rows.without(row("a")).without(row("a\0")), 2, "cut", s -> s.cut());
        answers(someRows().other(row("a\0")).hand(row("a")), 0, "cut the wrong way round", s -> s.cut());
    }

    private static void cutOfMany() {
        Situation all = full().other(MIN).hand(MAX);
        changes(all, all.withoutKeys(), 1500, "cut of 1500", s -> s.cut());
        Situation inner = full().other(1).hand(2997);
        changes(inner, inner.withoutKeys().with(7, 0).with(1506, 2998), 1498, "cut of all but the ends", s -> s.cut());
        Situation upper = full().other(6).hand(MAX);
        changes(upper, upper.withoutKeys().with(7, 0).with(8, 2).with(9, 4), 1497, "cut up to the end", s -> s.cut());
        answers(full().other(MAX).hand(MIN), 0, "cut the wrong way round", s -> s.cut());
    }

    private static void begins() {
        String deep = times(23, "\0");
        Situation rows = Situation.rows().with(1, row("")).with(2, row("a")).with(3, row("a\0")).with(4, row("a\0\u00ff"))
            .with(5, row("ab")).with(6, row("\u00ff\u00ff")).with(7, row(deep)).with(8, row(deep + "\0")).with(9, row(deep + "\u00ff"));
        String[] hands = {
            "", "a", "a\0", "a\0\u00ff", "a\0\u00ff\0", "a\1", "ab", "ac", "b", "`", "\u00ff", "\u00ff\u00ff", "\u00ff\u00ff\u00ff",
            "\u00fe", "\0", "\1", deep, deep + "\0", deep + "\1", deep + "\u00ff", times(24, "\u00ff"),
        };
        int[] due = {9, 4, 2, 1, 0, 0, 1, 0, 0, 0, 1, 1, 0, 0, 3, 0, 3, 1, 0, 1, 0};
        for (int i = 0; i < hands.length; i++) {
            answers(rows.hand(row(hands[i])), due[i], "begins", s -> s.begins());
        }
        answers(Situation.rows(), 0, "begins with no key there", s -> s.begins());
        answers(Situation.rows().hand(row("a")), 0, "begins with no key there", s -> s.begins());
        answers(rows.without().hand(row("")), 8, "begins, the empty row itself not being there", s -> s.begins());
        answers(rows.without(row("a")).hand(row("a")), 3, "begins, itself not being there", s -> s.begins());
    }

    private static void beginsOfAnotherSort() {
        for (int sort = 0; sort < 2; sort++) {
            for (Situation before : ofSort(sort)) {
                refused(before, STATE, "begins", s -> s.begins());
            }
        }
        refused(full(), STATE, "begins", s -> s.begins());
    }

    private static void loads(long first, long step, int n, long value) {
        Situation before = Situation.numbers().hand(first).other(first == MAX ? MIN : MAX).cursor(3);
        does(before, before.loaded(first, step, n, value), "load(" + step + ", " + n + ", " + value + ")", s -> s.load(step, n, value));
    }

    private static void load() {
        int[] counts = {0, 1, 2, 3, 1499, 1500};
        long[] values = {0, -1, MIN, MAX, MAX - 1, MAX - 1498, MAX - 1499, 5};
        for (int n : counts) {
            for (long value : values) {
                loads(0, 1, n, value);
                loads(-7, 3, n, value);
            }
        }
        loads(MAX, 1, 1, 0);
        loads(MAX, MAX, 1, 0);
        loads(MAX, 1, 0, 0);
        loads(MAX, MAX, 0, 0);
        loads(MAX - 1, 1, 2, 0);
        loads(MAX - 1499, 1, 1500, 0);
        loads(MAX - 2 * 1499, 2, 1500, 0);
        loads(MAX - 1 - 2 * 1499, 2, 1500, 0);
        loads(MIN, 1, 1500, 0);
        loads(MIN, MAX, 2, 0);
        loads(MIN, MAX, 3, 0);
        loads(MIN + 1, MAX, 3, 0);
        loads(0, MAX, 2, 0);
        loads(-1, MAX, 2, 0);
        loads(MIN, 1L << 62, 4, 0);
        // 1499 steps of this length go from the least number nearly to the greatest.
        loads(MIN, 12306033404742862L, 1500, 0);
        loadsEachOf1500();
        Situation gone = Situation.numbers().hand(2).cursor(2);
        does(gone, gone.loaded(2, 1, 2, 6), "load when all keys have gone", s -> {
            s.put(1);
            s.clear();
            s.load(1, 2, 6);
        });
        changes(gone, gone.loaded(2, 1, 2, 6), "throws.IllegalStateException", "load for the second time", s -> {
            s.load(1, 2, 6);
            s.load(1, 2, 7);
            return "";
        });
        does(gone, gone.loaded(2, 1, 2, 6), "load when a load has brought none", s -> {
            s.load(9, 0, 9);
            s.load(1, 2, 6);
        });
    }

    /** One object has too few calls to look at them all. */
    private static void loadsEachOf1500() {
        for (int from = 0; from < 1500; from += 250) {
            BranchStore s = Situation.numbers().loaded(-9, 5, 1500, MAX - 700).made();
            for (int i = from; i < from + 250; i++) {
                s.number(-9 + 5 * i);
                Check.answers("value " + i + " of 1500 loaded", MAX - 700 + i, s::get);
            }
        }
    }

    private static void loadWrongly() {
        long[][] calls = {{1, 1}, {1, 0}, {1, 1500}, {1, 1501}, {0, 1}, {0, 0}, {-1, -1}, {1, -1}, {MAX, MOST}, {MIN, LEAST}, {MAX, 5}};
        Situation[] wrong = {
            Situation.pairs(), Situation.rows(), somePairs(), someRows(), somePairs().withoutKeys(), someRows().withoutKeys(),
            someNumbers(), someNumbers().cursor(7), Situation.numbers().with(1, 0), Situation.numbers().with(1, 0).hand(MAX), full(),
        };
        for (long[] call : calls) {
            for (Situation before : wrong) {
                refused(before, STATE, "load(" + call[0] + ", " + call[1] + ", 1)", s -> s.load(call[0], (int) call[1], 1));
            }
        }
    }

    private static void loadOfNoSuchNumbers() {
        long[][] calls = {
            // at hand, step, n
            {0, 0, 1}, {0, -1, 1}, {0, MIN, 1}, {0, 0, 0}, {0, MIN, 0}, {0, 0, 1500}, {0, 0, 1501}, {0, -1, MOST}, {5, 0, 2},
            {0, 1, -1}, {0, 1, LEAST}, {0, MAX, -1}, {MIN, 1, -1}, {MAX, 1, -1}, {0, 0, -1}, {0, MIN, LEAST},
            {MAX, 1, 2}, {MAX, MAX, 2}, {MAX, 1, 1500}, {MAX - 1, 1, 3}, {MAX - 1, 2, 2}, {MAX - 1498, 1, 1500}, {MAX - 1499, 1, 1501},
            {MAX - 2 * 1499 + 1, 2, 1500}, {1, MAX, 2}, {0, MAX, 3}, {-1, MAX, 3}, {MIN, MAX, 4}, {MIN + 2, MAX, 3}, {MIN, MAX, 5},
            {MIN, MAX, 1500}, {MAX, MAX, MOST}, {MIN, 1L << 62, 5}, {MIN, 1L << 62, 9}, {0, 1L << 62, 3}, {0, 1L << 62, 5},
            {MIN, 12306033404742862L + 1, 1500}, {MIN, MAX, MOST}, {0, 1L << 33, MOST}, {MIN, 1L << 34, MOST},
        };
        for (long[] c : calls) {
            Situation before = Situation.numbers().hand(c[0]).other(4).cursor(3);
            refused(before, ARGUMENT, "load(" + c[1] + ", " + c[2] + ", 1)", s -> s.load(c[1], (int) c[2], 1));
            refused(Situation.numbers().hand(c[0]), ARGUMENT, "load(" + c[1] + ", " + c[2] + ", 1)", s -> s.load(c[1], (int) c[2], 1));
        }
    }

    private static void loadOfTooMany() {
        long[][] calls = {
            {0, 1, 1501}, {0, 1, 1502}, {0, 1, 3000}, {0, 1, MOST}, {MIN, 1, 1501}, {MIN, 1, MOST}, {MAX - 1500, 1, 1501},
            {MAX - 2 * 1500, 2, 1501}, {MIN, 1L << 33, MOST}, {0, 1L << 32, MOST}, {0, 1, 65536 + 3}, {0, 1, 1 << 30},
        };
        for (long[] c : calls) {
            Situation before = Situation.numbers().hand(c[0]).other(4).cursor(3);
            refused(before, FULL, "load(" + c[1] + ", " + c[2] + ", 1)", s -> s.load(c[1], (int) c[2], 1));
        }
    }
}
