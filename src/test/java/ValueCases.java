/** Promises 8 to 10: values come, are told, and go. */
final class ValueCases extends Cases {
    private ValueCases() {
    }

    static void run(Document document) {
        String notThere = "NoSuchElementException: it is not there.";
        document.test("Promise 8: put", "The key at hand has a value: true, if it was not there.", ValueCases::put);
        document.test("Promise 8: put", "UnsupportedOperationException: there are 1500 others.", ValueCases::putOneTooMany);
        document.test("Promise 9: get", "The value of the key at hand.", ValueCases::get);
        document.test("Promise 9: get", notThere, ValueCases::getOfNone);
        document.test("Promise 10: remove", "The key at hand goes: its value.", ValueCases::remove);
        document.test("Promise 10: remove", notThere, ValueCases::removeOfNone);
    }

    private static void put() {
        for (int sort = 0; sort < 3; sort++) {
            for (Situation before : ofSort(sort)) {
                Situation free = before.without(first(sort)).hand(first(sort));
                changes(free, free.with(-3, first(sort)), true, "put(-3) of a key that was not there", s -> s.put(-3));
                Situation there = free.with(8, first(sort));
                changes(there, there.with(-3, first(sort)), false, "put(-3) of a key that was there", s -> s.put(-3));
                changes(there, there, false, "put(8) of what was there", s -> s.put(8));
            }
        }
        long[] hands = {MIN, -8, -6, 4, 6, 299, 301, MAX};
        for (long a : hands) {
            Situation before = someNumbers().hand(a);
            changes(before, before.with(a, a), true, "put between the others, or beside them", s -> s.put(a));
        }
        Situation gone = someNumbers().hand(9).cursor(9);
        changes(gone, gone.with(1, 9), true, "put of the cursor's key", s -> s.put(1));
        putWithManyOthers();
    }

    private static void putWithManyOthers() {
        long[] hands = {MIN, 1, 1501, 2997, 2999, MAX};
        for (long a : hands) {
            Situation before = full().without(2998).hand(a);
            changes(before, before.with(5, a), true, "put with 1499 others", s -> s.put(5));
        }
        long[] keys = {0, 2, 1500, 2998};
        for (long a : keys) {
            Situation before = full().hand(a);
            changes(before, before.with(MIN, a), false, "put of one of 1500", s -> s.put(MIN));
        }
    }

    private static void putOneTooMany() {
        long[] hands = {MIN, -1, 1, 1501, 2997, 2999, 3000, MAX};
        for (long a : hands) {
            refused(full().hand(a), FULL, "put(0)", s -> s.put(0));
        }
        refused(full().hand(1).cursor(1), FULL, "put of the cursor's key", s -> s.put(0));
        Situation before = full().hand(1);
        changes(before, before.without(0).with(4, 1), true, "put when one of the 1500 has gone", s -> {
            s.number(0);
            s.remove();
            s.number(1);
            return s.put(4);
        });
        changes(before, before.withoutKeys().with(4, 1), true, "put when all of the 1500 have gone", s -> {
            s.clear();
            return s.put(4);
        });
    }

    private static void get() {
        long[] keys = {-7, 0, 5, 300};
        for (int i = 0; i < keys.length; i++) {
            answers(someNumbers().hand(keys[i]), 11 + i, "get", s -> s.get());
        }
        answers(somePairs().hand(2, MIN), 23, "get", s -> s.get());
        answers(someRows().hand(row("")), 31, "get of the empty row", s -> s.get());
        answers(someRows().hand(row("a\0")), 33, "get of a row that ends with 0", s -> s.get());
        answers(someRows().hand(row("a")), 32, "get of the row before it", s -> s.get());
        answers(full().hand(0), 7, "get of the least of 1500", s -> s.get());
        answers(full().hand(2998), 1506, "get of the greatest of 1500", s -> s.get());
        Situation again = someNumbers().hand(5);
        changes(again, again.with(-1, 5), -1, "get of the later of two values", s -> {
            s.put(-2);
            s.put(-1);
            return s.get();
        });
    }

    /** The key at hand is not there, in all ways that make it near to one that is. */
    private static Situation[] handNotThere() {
        return new Situation[] {
            Situation.numbers(), Situation.pairs(), Situation.rows(), Situation.numbers().cursor(0),
            someNumbers().hand(MIN), someNumbers().hand(-8), someNumbers().hand(-6), someNumbers().hand(1),
            someNumbers().hand(-5), someNumbers().hand(301), someNumbers().hand(44), someNumbers().hand(MAX),
            someNumbers().without(5).hand(5).cursor(5), someNumbers().hand(300L + (1L << 32)), someNumbers().hand(5 ^ MIN),
            somePairs().hand(1, 0), somePairs().hand(4, 1), somePairs().hand(2, MIN + 1), somePairs().hand(2, MAX),
            somePairs().hand(MIN, MIN), somePairs().hand(MAX, MAX), somePairs().hand(0, -1), somePairs().hand(-1, 1),
            someRows().hand(row("\0")), someRows().hand(row("\0\0")), someRows().hand(row("a\0\0")), someRows().hand(row("a\1")),
            someRows().hand(row("aa")), someRows().hand(row("b\0")), someRows().hand(row("c")), someRows().hand(row("\u00ff")),
            someRows().without().hand(row("")), someRows().without(row("a")).hand(row("a")), someRows().hand(row(times(24, "a"))),
            full().hand(-1), full().hand(1), full().hand(2999), full().without(0).hand(0), full().without(2998).hand(2998),
        };
    }

    private static void getOfNone() {
        for (Situation none : handNotThere()) {
            refused(none, ABSENT, "get", s -> s.get());
        }
    }

    private static void remove() {
        long[] keys = {-7, 0, 5, 300};
        for (int i = 0; i < keys.length; i++) {
            Situation before = someNumbers().hand(keys[i]);
            changes(before, before.without(keys[i]), 11 + i, "remove", s -> s.remove());
        }
        for (int sort = 0; sort < 3; sort++) {
            Situation last = ofSort(sort)[1].with(MIN, first(sort)).cursor(first(sort));
            changes(last, last.without(first(sort)), MIN, "remove of the only key", s -> s.remove());
        }
        Situation row = someRows().hand(row("a"));
        changes(row, row.without(row("a")), 32, "remove of a row with which others begin", s -> s.remove());
        Situation zero = someRows().hand(row("a\0"));
        changes(zero, zero.without(row("a\0")), 33, "remove of a row that ends with 0", s -> s.remove());
        Situation pair = somePairs().hand(1, 4);
        changes(pair, pair.without(1, 4), 22, "remove", s -> s.remove());
        Situation many = full().hand(2998);
        changes(many, many.without(2998), 1506, "remove of the greatest of 1500", s -> s.remove());
        changes(many.hand(0), many.hand(0).without(0), 7, "remove of the least of 1500", s -> s.remove());
    }

    private static void removeOfNone() {
        for (Situation none : handNotThere()) {
            refused(none, ABSENT, "remove", s -> s.remove());
        }
        Situation once = someNumbers().hand(5);
        changes(once, once.without(5), "throws.NoSuchElementException", "remove for the second time", s -> {
            s.remove();
            return s.remove();
        });
    }
}
