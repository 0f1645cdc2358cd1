/** Promises 11 to 16: the cursor goes, and tells of its key. */
final class CursorCases extends Cases {
    private CursorCases() {
    }

    static void run(Document document) {
        String atNone = "NoSuchElementException: it is at none.";
        document.test("Promise 11: seek", "The cursor comes to the greatest key not above that at hand (0), the least not below it (1), "
            + "the greatest below it (2), the least above it (3), the least (4), the greatest (5): whether there is one; if not, it stays.",
            CursorCases::seek);
        document.test("Promise 11: seek", "IllegalArgumentException: how is none of these.", CursorCases::seekInNoSuchWay);
        document.test("Promise 12: move", "The cursor comes to the least key above its own (on), or the greatest below: whether there is "
            + "one; if not, it stays.", CursorCases::move);
        document.test("Promise 12: move", atNone, CursorCases::moveFromNone);
        document.test("Promise 13: there", "Whether the cursor is at a key, and that is there.", CursorCases::there);
        document.test("Promise 14: length", "How many parts the cursor's key has: 1, 2, or its bytes.", CursorCases::length);
        document.test("Promise 14: length", atNone, CursorCases::lengthOfNone);
        document.test("Promise 15: part", "Part i of the cursor's key: a number, or a byte.", CursorCases::part);
        document.test("Promise 15: part", atNone, CursorCases::partOfNone);
        document.test("Promise 15: part", "IndexOutOfBoundsException: there is no such part.", CursorCases::noSuchPart);
        document.test("Promise 16: value", "The value of the cursor's key.", CursorCases::value);
        document.test("Promise 16: value", "NoSuchElementException: it is at none, or that is not there.", CursorCases::noValue);
    }

    /** The cursor comes from none, from a key, and from one that is not there; with null due it stays. */
    private static void seekFinds(Situation here, int how, long[] elsewhere, long[] due) {
        for (Situation before : new Situation[] {here, here.cursor(elsewhere)}) {
            Situation after = due == null ? before : before.cursor(due);
            changes(before, after, due != null, "seek(" + how + ")", s -> s.seek(how));
        }
    }

    private static void seek() {
        Long[][] due = {
            // at hand, then what each way finds
            {MIN, null, 10L, null, 10L, 10L, 30L},
            {9L, null, 10L, null, 10L, 10L, 30L},
            {10L, 10L, 10L, null, 20L, 10L, 30L},
            {11L, 10L, 20L, 10L, 20L, 10L, 30L},
            {20L, 20L, 20L, 10L, 30L, 10L, 30L},
            {29L, 20L, 30L, 20L, 30L, 10L, 30L},
            {30L, 30L, 30L, 20L, null, 10L, 30L},
            {31L, 30L, null, 30L, null, 10L, 30L},
            {MAX, 30L, null, 30L, null, 10L, 30L},
        };
        Situation three = Situation.numbers().with(1, 10).with(2, 20).with(3, 30).other(20);
        for (Long[] line : due) {
            for (int how = 0; how < 6; how++) {
                long[] found = line[how + 1] == null ? null : new long[] {line[how + 1]};
                seekFinds(three.hand(line[0]), how, new long[] {20}, found);
                seekFinds(three.hand(line[0]), how, new long[] {25}, found);
            }
        }
        seekInAnEmptyStore();
        seekAtTheEndsOfAllKeys();
        seekAmongPairsAndRows();
    }

    private static void seekInAnEmptyStore() {
        for (int how = 0; how < 6; how++) {
            seekFinds(Situation.numbers(), how, new long[] {0}, null);
            seekFinds(Situation.pairs(), how, new long[] {0, 0}, null);
            seekFinds(Situation.rows(), how, row(""), null);
        }
    }

    private static void seekAtTheEndsOfAllKeys() {
        long[] least = {MIN};
        long[] greatest = {MAX};
        long[] elsewhere = {3};
        Situation both = Situation.numbers().with(1, least).with(2, greatest);
        long[][] atLeast = {least, least, null, greatest, least, greatest};
        long[][] atGreatest = {greatest, greatest, least, null, least, greatest};
        long[][] between = {least, greatest, least, greatest, least, greatest};
        for (int how = 0; how < 6; how++) {
            seekFinds(both.hand(least), how, elsewhere, atLeast[how]);
            seekFinds(both.hand(greatest), how, elsewhere, atGreatest[how]);
            seekFinds(both.hand(0), how, elsewhere, between[how]);
        }
        long[][] amongMany = {{1500}, {1502}, {1500}, {1502}, {0}, {2998}};
        for (int how = 0; how < 6; how++) {
            seekFinds(full().hand(1501), how, elsewhere, amongMany[how]);
        }
    }

    private static void seekAmongPairsAndRows() {
        Situation pairs = Situation.pairs().with(1, 1, MAX).with(2, 2, MIN).with(3, 2, 0);
        long[][] atPair = {{2, MIN}, {2, MIN}, {1, MAX}, {2, 0}, {1, MAX}, {2, 0}};
        long[][] besidePair = {{2, MIN}, {2, 0}, {2, MIN}, {2, 0}, {1, MAX}, {2, 0}};
        Situation rows = Situation.rows().with(1, row("")).with(2, row("\0")).with(3, row("\0\0")).with(4, row("\u00ff"));
        long[][] atRow = {row("\0"), row("\0"), row(""), row("\0\0"), row(""), row("\u00ff")};
        long[][] atEmptyRow = {row(""), row(""), null, row("\0"), row(""), row("\u00ff")};
        long[][] besideRow = {row("\0\0"), row("\u00ff"), row("\0\0"), row("\u00ff"), row(""), row("\u00ff")};
        long[][] aboveRows = {row("\u00ff"), null, row("\u00ff"), null, row(""), row("\u00ff")};
        for (int how = 0; how < 6; how++) {
            seekFinds(pairs.hand(2, MIN), how, new long[] {0, 0}, atPair[how]);
            seekFinds(pairs.hand(2, -1), how, new long[] {0, 0}, besidePair[how]);
            seekFinds(rows.hand(row("\0")), how, row("a"), atRow[how]);
            seekFinds(rows.hand(row("")), how, row("a"), atEmptyRow[how]);
            seekFinds(rows.hand(row("\0\0\0")), how, row("a"), besideRow[how]);
            seekFinds(rows.hand(row("\u00ff\0")), how, row("a"), aboveRows[how]);
        }
    }

    private static void seekInNoSuchWay() {
        int[] ways = {-1, 6, 7, -6, 256, LEAST, MOST};
        for (int how : ways) {
            for (int sort = 0; sort < 3; sort++) {
                for (Situation before : ofSort(sort)) {
                    refused(before, ARGUMENT, "seek(" + how + ")", s -> s.seek(how));
                }
            }
            refused(full(), ARGUMENT, "seek(" + how + ")", s -> s.seek(how));
        }
    }

    private static void moves(Situation before, boolean on, long... due) {
        changes(before, before.cursor(due), true, "move(" + on + ")", s -> s.move(on));
    }

    private static void staysIn(Situation before, boolean on) {
        answers(before, false, "move(" + on + ")", s -> s.move(on));
    }

    private static void move() {
        Situation three = Situation.numbers().with(1, 10).with(2, 20).with(3, 30).hand(20).other(30);
        moves(three.cursor(10), true, 20);
        staysIn(three.cursor(10), false);
        moves(three.cursor(20), true, 30);
        moves(three.cursor(20), false, 10);
        staysIn(three.cursor(30), true);
        moves(three.cursor(30), false, 20);
        moves(three.cursor(9), true, 10);
        staysIn(three.cursor(9), false);
        moves(three.cursor(21), true, 30);
        moves(three.cursor(21), false, 20);
        staysIn(three.cursor(31), true);
        moves(three.cursor(31), false, 30);
        moves(three.cursor(MIN), true, 10);
        moves(three.cursor(MAX), false, 30);
        Situation ends = Situation.numbers().with(1, MIN).with(2, MAX);
        moves(ends.cursor(MIN), true, MAX);
        moves(ends.cursor(MAX), false, MIN);
        staysIn(ends.cursor(MIN), false);
        staysIn(ends.cursor(MAX), true);
        moveAmongFewOrMany();
        moveAmongPairsAndRows();
    }

    private static void moveAmongFewOrMany() {
        for (int sort = 0; sort < 3; sort++) {
            Situation none = ofSort(sort)[1].cursor(first(sort));
            staysIn(none, true);
            staysIn(none, false);
            staysIn(none.with(1, first(sort)), true);
            staysIn(none.with(1, first(sort)), false);
        }
        moves(full(), true, 8);
        moves(full(), false, 4);
        staysIn(full().cursor(2998), true);
        staysIn(full().cursor(0), false);
        moves(full().cursor(2999), false, 2998);
    }

    private static void moveAmongPairsAndRows() {
        Situation pairs = Situation.pairs().with(1, 1, MAX).with(2, 2, MIN);
        moves(pairs.cursor(1, MAX), true, 2, MIN);
        moves(pairs.cursor(2, MIN), false, 1, MAX);
        staysIn(pairs.cursor(2, MIN + 1).without(2, MIN).without(1, MAX), false);
        Situation rows = Situation.rows().with(1, row("")).with(2, row("\0")).with(3, row("a"));
        moves(rows.cursor(row("")), true, row("\0"));
        moves(rows.cursor(row("\0")), false, row(""));
        moves(rows.cursor(row("\0\0")), true, row("a"));
        moves(rows.cursor(row("\0\0")), false, row("\0"));
        staysIn(rows.cursor(row("")), false);
        staysIn(rows.cursor(row("a\0")), true);
    }

    private static void moveFromNone() {
        for (Situation none : withoutCursor()) {
            refused(none, ABSENT, "move(true)", s -> s.move(true));
            refused(none, ABSENT, "move(false)", s -> s.move(false));
        }
    }

    private static void there() {
        for (Situation none : withoutCursor()) {
            answers(none, false, "there", s -> s.there());
        }
        for (int sort = 0; sort < 3; sort++) {
            Situation none = ofSort(sort)[1].cursor(first(sort));
            answers(none, false, "there", s -> s.there());
            answers(none.with(1, first(sort)), true, "there", s -> s.there());
            answers(ofSort(sort)[0], false, "there", s -> s.there());
            answers(ofSort(sort)[2], true, "there", s -> s.there());
        }
        answers(someRows().cursor(row("a\0")).without(row("a\0")), false, "there, only a shorter row being so", s -> s.there());
        answers(someRows().cursor(row("a")).without(row("a")), false, "there, only a longer row being so", s -> s.there());
        Situation once = someNumbers().hand(300);
        changes(once, once.with(9, 300), "false true", "there, when its key went and came again", s -> {
            s.remove();
            boolean gone = s.there();
            s.put(9);
            return gone + " " + s.there();
        });
    }

    private static void length() {
        answers(someNumbers(), 1, "length", s -> s.length());
        answers(someNumbers().cursor(MIN), 1, "length", s -> s.length());
        answers(somePairs(), 2, "length", s -> s.length());
        answers(somePairs().cursor(0, 0), 2, "length", s -> s.length());
        for (int bytes = 0; bytes <= 24; bytes++) {
            int due = bytes;
            Situation at = someRows().cursor(row(times(bytes, "\0")));
            answers(at, due, "length", s -> s.length());
            answers(at.cursor(row(times(bytes, "\u00ff"))), due, "length", s -> s.length());
        }
    }

    private static void lengthOfNone() {
        for (Situation none : withoutCursor()) {
            refused(none, ABSENT, "length", s -> s.length());
        }
    }

    private static void part() {
        long[] numbers = {MIN, -1, 0, 1, 255, 256, MAX};
        for (long a : numbers) {
            answers(someNumbers().cursor(a), a, "part(0)", s -> s.part(0));
            answers(somePairs().cursor(a, 7), a, "part(0)", s -> s.part(0));
            answers(somePairs().cursor(7, a), a, "part(1)", s -> s.part(1));
        }
        String[] rows = {"\0", "\u00ff", "a\0", "\0a", "\u0080\u007f", times(8, "\0\1\u00ff"), times(24, "\0"), times(24, "\u00ff")};
        for (String row : rows) {
            for (int i = 0; i < row.length(); i++) {
                int at = i;
                answers(someRows().cursor(row(row)), (int) row.charAt(i), "part(" + i + ")", s -> s.part(at));
            }
        }
    }

    private static void partOfNone() {
        int[] parts = {0, 1, -1, 24, LEAST, MOST};
        for (Situation none : withoutCursor()) {
            for (int i : parts) {
                refused(none, ABSENT, "part(" + i + ")", s -> s.part(i));
            }
        }
    }

    private static void noSuchPart() {
        Situation[] all = {
            someNumbers(), someNumbers().cursor(7), somePairs(), somePairs().cursor(1, 6), someRows().cursor(row("")), someRows(),
            someRows().cursor(row("a\0")), someRows().cursor(row(times(23, "\0"))), someRows().cursor(row(times(24, "\u00ff"))),
        };
        int[] lengths = {1, 1, 2, 2, 0, 1, 2, 23, 24};
        for (int k = 0; k < all.length; k++) {
            int[] parts = {-1, lengths[k], lengths[k] + 1, lengths[k] + 256, LEAST, LEAST + 1, MOST};
            for (int i : parts) {
                refused(all[k], INDEX, "part(" + i + ")", s -> s.part(i));
            }
        }
    }

    private static void value() {
        answers(someNumbers(), 14, "value", s -> s.value());
        answers(someNumbers().cursor(-7).hand(5), 11, "value of another key than that at hand", s -> s.value());
        answers(somePairs(), 23, "value", s -> s.value());
        answers(someRows(), 34, "value", s -> s.value());
        answers(someRows().cursor(row("")), 31, "value of the empty row", s -> s.value());
        answers(full().cursor(2998), 1506, "value of the greatest of 1500", s -> s.value());
        Situation later = someNumbers().hand(300);
        changes(later, later.with(MIN, 300), MIN, "value put later", s -> {
            s.put(MIN);
            return s.value();
        });
    }

    private static void noValue() {
        for (Situation none : withoutCursor()) {
            refused(none, ABSENT, "value", s -> s.value());
        }
        for (int sort = 0; sort < 3; sort++) {
            refused(ofSort(sort)[0], ABSENT, "value of a key that is not there", s -> s.value());
            refused(ofSort(sort)[1].cursor(first(sort)), ABSENT, "value with no key there", s -> s.value());
        }
        refused(someNumbers().hand(5).cursor(6), ABSENT, "value, that at hand being there", s -> s.value());
        refused(someRows().cursor(row("a\0\0")), ABSENT, "value, a shorter row being there", s -> s.value());
        refused(full().cursor(2999), ABSENT, "value above 1500 keys", s -> s.value());
    }
}
