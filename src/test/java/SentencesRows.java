/** Promises 40 to 44: tell, check, keep, back, count. */
final class SentencesRows {
    private static final int BAD = Due.BAD, NO = Due.NO, FULL = Due.FULL, NONE = Due.NONE;
    private static final int LEAST = Integer.MIN_VALUE, GREATEST = Integer.MAX_VALUE;

    private SentencesRows() {
    }

    static void all() {
        tell();
        tellFull();
        check();
        checkElse();
        checkUsesUp();
        checkRefused();
        keep();
        back();
        backRefused();
        count();
        countRefused();
        tellingChangesNothing();
        notPromised();
    }

    private static void tell() {
        Doc.says("Promise 40", "One more number waits: how many.");
        BookBoards x = new BookBoards();
        for (int i = 1; i <= 60; i++) {
            Due.row(Due.of(i, i), x.tell(i % 2 == 0 ? LEAST : GREATEST), x.count(7));
        }
    }

    private static void tellFull() {
        Doc.says("Promise 40", "FULL: 60 wait.");
        Twins.same(FULL, Twins.State.FULL, x -> x.tell(0), x -> x.tell(LEAST), x -> x.tell(GREATEST));
        BookBoards x = new BookBoards();
        for (int i = 0; i < 59; i++) {
            x.tell(i);
        }
        Due.row(Due.of(60, FULL, FULL, 60), x.tell(0), x.tell(0), x.tell(1), x.count(7));
        Due.row(Due.of(NO, 1), x.check(1), x.tell(0));
    }

    /** One line, 30 thick, of parts 0 and 1: 32 thick behind a year. */
    private static BookBoards kept() {
        BookBoards x = new BookBoards();
        x.book(2010, 0);
        x.book(2020, 1);
        x.keep();
        return x;
    }

    private static int told(BookBoards x, int n, int... values) {
        for (int v : values) {
            x.tell(v);
        }
        return x.check(n);
    }

    /** So many numbers of THE YEARS TOLD by what kept() makes. */
    private static int[] years(int many) {
        int[] row = new int[many];
        for (int i = 1; i < many; i += 2) {
            row[i] = 31 + i;
        }
        return row;
    }

    private static void check() {
        Doc.says("Promise 41", "are THE YEARS TOLD of n (1 .. 30), two by two: 0;");
        for (int n : new int[] {1, 2, 29, 30}) {
            BookBoards x = kept();
            Due.row(Due.of(0, 0), told(x, n, years(2 * n)), x.count(7));
        }
        Due.is(0, told(kept(), 3, 0, 32, 0, 34, 0, 36));
    }

    private static void checkElse() {
        Doc.says("Promise 41",
                "else 1 and how many stand right ahead of the first that is not (or is missing, or one too "
                + "many).");
        // Missing: none, one, all but one; too many by one, and by more.
        BookBoards x = kept();
        Due.row(Due.of(1, 2, 3, 3), told(x, 1), told(x, 1, years(1)), told(x, 1, years(3)), told(x, 1, years(4)));
        Due.row(Due.of(1, 4, 5), told(x, 2), told(x, 2, years(3)), told(x, 2, years(6)));
        x = kept();
        Due.row(Due.of(60, 59), told(x, 30, years(59)), told(x, 29, years(60)));
        x = kept();
        Due.row(Due.of(60, 58), told(x, 30, years(59)), told(x, 30, years(57)));
        // Not right: each of six in turn, and what stands behind it does not matter.
        x = kept();
        for (int wrong = 0; wrong < 6; wrong++) {
            int[] row = years(6);
            row[wrong]++;
            Due.is(1 + wrong, told(x, 3, row));
            row[wrong] = LEAST;
            Due.is(1 + wrong, told(x, 3, row));
        }
        // Wrong, and missing or too many further on.
        Due.row(Due.of(2, 2), told(x, 3, 0, 33, 0), told(x, 1, 0, 33, 0, 34));
        // A line in place of the thickness, and the other way round.
        Due.is(1, told(x, 1, 32, 0));
    }

    private static void checkUsesUp() {
        Doc.says("Promise 41", "The numbers that wait (none do then, whatever is answered)");
        BookBoards x = kept();
        Due.row(Due.of(0, 0, 1), told(x, 1, 0, 32), x.count(7), x.check(1));
        Due.row(Due.of(2, 0), told(x, 1, 0, 33), x.count(7));
        Due.row(Due.of(BAD, 0, 1), told(x, 0, 0, 32), x.count(7), x.check(1));
        Due.row(Due.of(BAD, 0, 1), told(x, 31, 0, 32), x.count(7), x.check(1));
        BookBoards y = new BookBoards();
        Due.row(Due.of(NO, 0, 1), told(y, 1, 0, 32), x.count(7), y.tell(5));
        y.keep();
        Due.row(Due.of(NO, 0), y.check(1), y.count(7));
        // 60 at once, and then there is room for 60.
        BookBoards w = Twins.made(Twins.State.FULL);
        Due.row(Due.of(FULL, 0, 0, 1), w.tell(0), w.check(30), w.count(7), w.tell(0));
    }

    private static void checkRefused() {
        Doc.says("Promise 41", "BAD; NO: there is no IMAGE, or no SETTING by it, or that has no LINES.");
        Twins.same(BAD, Twins.State.BARE, x -> x.check(0), x -> x.check(31), x -> x.check(-1), x -> x.check(LEAST),
                x -> x.check(GREATEST));
        Twins.same(NO, Twins.State.BARE, x -> x.check(1), x -> x.check(30));
        BookBoards x = new BookBoards();
        x.book(2050, 0);
        Due.row(Due.of(NO, NO, BAD, BAD), x.check(1), x.check(30), x.check(0), x.check(31));
        // An image of no books; one that has no setting, while there is one now; and the other way round.
        BookBoards y = new BookBoards();
        y.keep();
        y.book(2050, 0);
        Due.row(Due.of(NO, NO, BAD, BAD), y.check(1), y.check(30), y.check(0), y.check(31));
        y.set(0, 49);
        y.keep();
        y.set(0, 50);
        Due.row(Due.of(NO, NO, BAD), y.check(1), y.check(30), y.check(31));
        y.keep();
        y.set(0, 49);
        Due.row(Due.of(1, 0, NONE), y.check(1), told(y, 1, 0, 51), y.setting(-2));
        // Nothing but the numbers that wait is changed by it.
        for (int n : new int[] {0, 1, 30, 31}) {
            BookBoards w = Twins.made(Twins.State.SOME);
            w.check(n);
            Due.row(Due.of(5, 2, 3, 2, 0, 12, 78), w.count(0), w.count(1), w.count(2), w.count(3), w.count(7),
                    w.count(8), w.count(9));
            Due.row(Due.of(62 + 3 + 62 + 2, 2, 4), w.setting(-2), w.setting(-1), w.back());
        }
    }

    private static void keep() {
        Doc.says("Promise 42", "AN IMAGE is kept: how many BOOKS.");
        BookBoards x = new BookBoards();
        Due.row(Due.of(0, 0), x.keep(), x.keep());
        x.book(2010, 0);
        Due.row(Due.of(1, 1), x.keep(), x.back());
        x.deal(23);
        Due.row(Due.of(24, 24, 24), x.keep(), x.keep(), x.back());
        // It changes nothing of what is now.
        BookBoards y = Twins.made(Twins.State.SOME);
        y.keep();
        Due.row(Due.of(5, 2, 3, 2, 3, 12, 78), y.count(0), y.count(1), y.count(2), y.count(3), y.count(7), y.count(8),
                y.count(9));
    }

    private static void back() {
        Doc.says("Promise 43", "All is as THE IMAGE: how many BOOKS.");
        BookBoards x = new BookBoards();
        x.keep();
        x.deal(24);
        Due.row(Due.of(0, 0, 0), x.back(), x.count(0), x.back());
        // From few books to many, and from many to few.
        x.deal(24);
        x.keep();
        Due.row(Due.of(24, 24), x.back(), x.count(0));
        BookBoards y = Twins.made(Twins.State.FULL);
        Due.row(Due.of(2, 0, 1, 0, 30, 0, 2, 60, 96, 1), y.back(), y.count(1), y.count(2), y.count(3), y.count(4),
                y.count(5), y.count(6), y.count(7), y.count(8), y.count(9));
        Due.row(Due.of(NONE, NONE, 0, 32, 1), y.why(0), y.why(1), y.why(2), y.setting(-2), y.setting(-1));
    }

    private static void backRefused() {
        Doc.says("Promise 43", "NO: there is none.");
        Twins.same(NO, Twins.State.BARE, x -> x.back());
        BookBoards x = new BookBoards();
        x.book(2010, 0);
        Due.row(Due.of(NO, 1, NO, 1), x.back(), x.count(0), x.back(), x.keep());
        Due.is(1, x.back());
    }

    private static void count() {
        Doc.says("Promise 44",
                "How many: 0 BOOKS, 1 BOARDS, 2 TEXTS, 3 ALLOWED heights, 4 THICKNESS of all BOOKS, 5 BOOKS "
                + "that are TIED, 6 unlike HEIGHTS of BOOKS, 7 numbers that wait, 8 bytes of THE TAPE, 9 z.");
        BookBoards x = Twins.made(Twins.State.SOME);
        Due.row(Due.of(5, 2, 3, 2, 72, 1, 4, 3, 12, 78), x.count(0), x.count(1), x.count(2), x.count(3), x.count(4),
                x.count(5), x.count(6), x.count(7), x.count(8), x.count(9));
        BookBoards y = Twins.made(Twins.State.FULL);
        Due.row(Due.of(24, 12, 14, 6, 2, 60, 96, 1), y.count(0), y.count(1), y.count(2), y.count(3), y.count(5),
                y.count(7), y.count(8), y.count(9));
        // As much as can be: 24 of 99, all tied, all alike or all unlike.
        BookBoards w = new BookBoards();
        for (int i = 0; i < 24; i++) {
            w.book(9999, 0);
            w.tie(i, true);
        }
        Due.row(Due.of(24 * 99, 24, 1), w.count(4), w.count(5), w.count(6));
        BookBoards v = new BookBoards();
        for (int i = 0; i < 24; i++) {
            v.book(100 * (i < 12 ? 1 + i : 76 + i) + 1, 0);
        }
        Due.row(Due.of(24, 0, 24), v.count(4), v.count(5), v.count(6));
        v.seed(LEAST);
        Due.is(LEAST, v.count(9));
    }

    private static void countRefused() {
        Doc.says("Promise 44", "BAD.");
        for (Twins.State state : Twins.State.values()) {
            Twins.same(BAD, state, x -> x.count(-1), x -> x.count(10), x -> x.count(LEAST), x -> x.count(GREATEST));
        }
    }

    /** What only tells leaves all as it was, where it answers and is not refused. */
    private static void tellingChangesNothing() {
        Doc.says("Promise 44", "How many:");
        Twins.Call[] calls = {x -> x.bookTold(0, 4), x -> x.told(0, 7), x -> x.as(0, 0), x -> x.judge(0),
            x -> x.judge(2), x -> x.setting(0), x -> x.line(0, 4), x -> x.cases(1), x -> x.few(3, 2), x -> x.apart(30),
            x -> x.edge(), x -> x.textTold(0, 1), x -> x.why(0), x -> x.fullBy(), x -> x.most(60, 1),
            x -> x.wall(24, 99), x -> x.inch(1), x -> x.inch(-1), x -> x.shift(0, 2010), x -> x.ask(1, 0),
            x -> x.item(2, 0), x -> x.rest(3, 5), x -> x.count(4)};
        for (Twins.Call call : calls) {
            Twins.same(call.on(Twins.made(Twins.State.SOME)), Twins.State.SOME, call);
            Twins.same(call.on(Twins.made(Twins.State.FULL)), Twins.State.FULL, call);
        }
    }

    private static void notPromised() {
        Doc.saysBeside("Not promised",
                "How the state is held inside the object is free, as are the speed of each call, the text of toString "
                + "and the behaviour of equals and hashCode. Use of one object from several threads at once is not "
                + "promised to be safe.");
        Doc.says("Not promised",
                "Nothing is promised beyond the answers and state changes described above, and nothing about an object "
                + "after its 512th call.");
        // What later calls answer is free, but by LANGUAGE.md none of them throws.
        BookBoards x = Twins.made(Twins.State.FULL);
        int ended = 0;
        for (int i = 0; i < 600; i++) {
            Due.of(x.feed(i, -i, 7), x.text(), x.tell(i), x.keep(), x.back(), x.deal(24), x.board(0, 0, 0),
                    x.allow(i % 99), x.setting(-2), x.check(30), x.drop(0), x.clear());
            ended++;
        }
        Due.is(600, ended);
    }
}
