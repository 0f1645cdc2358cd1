import java.util.NoSuchElementException;

/** What all groups of cases share: a call is refused, or only answers, or changes the store. */
abstract class Cases {
    static final Class<IllegalStateException> STATE = IllegalStateException.class;
    static final Class<IllegalArgumentException> ARGUMENT = IllegalArgumentException.class;
    static final Class<UnsupportedOperationException> FULL = UnsupportedOperationException.class;
    static final Class<NoSuchElementException> ABSENT = NoSuchElementException.class;
    static final Class<IndexOutOfBoundsException> INDEX = IndexOutOfBoundsException.class;
    static final long MAX = Long.MAX_VALUE;
    static final long MIN = Long.MIN_VALUE;
    static final int MOST = Integer.MAX_VALUE;
    static final int LEAST = Integer.MIN_VALUE;

    /** A call whose answer nobody looks at. */
    interface Deed {
        void on(BranchStore s);
    }

    interface Question {
        Object to(BranchStore s);
    }

    /** The call throws, and the store is as it was. */
    static void refused(Situation before, Class<? extends RuntimeException> due, String call, Deed deed) {
        changes(before, before, "throws." + due.getSimpleName(), call, s -> {
            deed.on(s);
            return "nothing thrown";
        });
    }

    /** The call answers, and the store is as it was. */
    static void answers(Situation before, Object due, String call, Question question) {
        changes(before, before, due, call, question);
    }

    static void does(Situation before, Situation after, String call, Deed deed) {
        changes(before, after, "", call, s -> {
            deed.on(s);
            return "";
        });
    }

    static void changes(Situation before, Situation after, Object due, String call, Question question) {
        BranchStore s = before.made();
        String what = call + " of " + before;
        Check.answers(what, due, () -> question.to(s));
        after.isThatOf(what, s);
    }

    static long[] row(String letters) {
        return Situation.row(letters);
    }

    static String times(int n, String letter) {
        return letter.repeat(n);
    }

    /** The key that is at hand at first. */
    static long[] first(int sort) {
        return sort == 2 ? row("") : new long[sort + 1];
    }

    static Situation someNumbers() {
        return Situation.numbers().with(11, -7).with(12, 0).with(13, 5).with(14, 300).hand(6).other(-7).cursor(300);
    }

    static Situation somePairs() {
        return Situation.pairs().with(21, 1, -1).with(22, 1, 4).with(23, 2, MIN).hand(1, 5).other(1, 4).cursor(2, MIN);
    }

    static Situation someRows() {
        return Situation.rows().with(31, row("")).with(32, row("a")).with(33, row("a\0")).with(34, row("b"))
            .hand(row("a\0b")).other(row("a\0")).cursor(row("b"));
    }

    /** Some keys, the cursor at a key that is not there; new ones; and some with the cursor at a key. */
    static Situation[] ofSort(int sort) {
        Situation[] some = {someNumbers(), somePairs(), someRows()};
        Situation[] gone = {someNumbers().cursor(7), somePairs().cursor(1, 6), someRows().cursor(row("c"))};
        return new Situation[] {gone[sort], Situation.ofSort(sort), some[sort]};
    }

    /** A situation of each sort, the cursor at none: without keys, and with some, the key at hand among them. */
    static Situation[] withoutCursor() {
        return new Situation[] {
            Situation.numbers(), Situation.pairs(), Situation.rows(),
            Situation.numbers().with(1, 0).with(2, 8).other(3),
            Situation.pairs().with(1, 0, 0).with(2, 8, 8).other(3, 3),
            Situation.rows().with(1, row("")).with(2, row("a")).other(row("b")),
        };
    }

    /** The 1500 even numbers from 0 on, 0 having the value 7. */
    static Situation full() {
        return Situation.numbers().loaded(0, 2, 1500, 7).other(4).cursor(6);
    }
}
