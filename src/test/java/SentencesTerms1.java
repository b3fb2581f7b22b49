/** 'Terms', what stands ahead of its parts, and part 1: books and boards by hand. */
final class SentencesTerms1 {
    private static final int BAD = Due.BAD, NO = Due.NO, FULL = Due.FULL, NONE = Due.NONE, NOTHING = Due.NOTHING,
            KIND = Due.KIND, INDEX = Due.INDEX, SIZE = Due.SIZE;
    private static final int LEAST = Integer.MIN_VALUE;

    private SentencesTerms1() {
    }

    static void all() {
        cutsTowards0();
        firstOfSeveral();
        changesNothing();
        noneChangesNothing();
        books24();
        heightThicknessPart();
        notTiedAtFirst();
        widthPlankCase();
        boards12();
        kindsUnderOneAnother();
        wants();
        takes();
        worth();
        goodByWidth();
        goodByTies();
    }

    private static void cutsTowards0() {
        Doc.says("Terms", "All numbers are whole; / cuts towards 0.");
        SentencesTerms3.gives(3, "7/2");
        SentencesTerms3.gives(0, "1/2");
        SentencesTerms3.gives(7, "10+(0-7)/2");
        SentencesTerms3.gives(7, "10+7/(0-2)");
        SentencesTerms3.gives(13, "10+(0-7)/(0-2)");
        SentencesTerms3.gives(10, "10+(0-1)/2");
    }

    /** Each call with more than one refusal, where at least two are due. */
    private static void firstOfSeveral() {
        Doc.says("Terms", "A call that is refused answers one of BAD, NO, FULL, or a FINDING, of several the one that "
                + "stands first with it,");
        Twins.same(BAD, Twins.State.FULL, x -> x.book(100, 0), x -> x.book(101, 8), x -> x.board(6, 0, 0),
                x -> x.board(0, 100, 0), x -> x.board(0, 0, 100), x -> x.allow(0), x -> x.allow(100),
                x -> x.shift(25, 101), x -> x.shift(0, 100), x -> x.pour(4, 0), x -> x.pour(0, 8));
        Twins.same(NO, Twins.State.FULL, x -> x.allow(99), x -> x.allow(20));
        Twins.same(FULL, Twins.State.FULL, x -> x.book(101, 0), x -> x.board(0, 0, 0), x -> x.allow(98),
                x -> x.shift(0, 101), x -> x.pour(0, 0), x -> x.feed(0, 0, 0), x -> x.tell(0));
        Twins.same(BAD, Twins.State.SOME, x -> x.as(2, 6), x -> x.as(2, 1), x -> x.as(0, 6), x -> x.sheet(4, 0, -1),
                x -> x.sheet(0, 2, -1), x -> x.mark(4, 99, NONE), x -> x.pour(3, 8), x -> x.copy(3, 0, 4, 0, 1),
                x -> x.copy(-1, 9, 3, 9, 9), x -> x.lay(5, 2, 3), x -> x.lay(0, 4, 3), x -> x.ask(0, 6),
                x -> x.ask(5, 0), x -> x.ask(2, -1), x -> x.item(5, 9), x -> x.rest(5, 0));
        Twins.same(NOTHING, Twins.State.SOME, x -> x.mark(3, 99, NONE), x -> x.mark(3, 0, 100000), x -> x.pour(3, 0),
                x -> x.copy(3, 0, 1, 99, 1), x -> x.copy(0, 99, 3, 0, 1), x -> x.lay(0, 2, 3), x -> x.ask(0, 5),
                x -> x.item(0, -1), x -> x.rest(0, 0));
        Twins.same(KIND, Twins.State.SOME, x -> x.copy(0, 99, 1, 99, 99), x -> x.copy(1, -1, 2, 0, -1),
                x -> x.item(3, 99), x -> x.item(1, -1), x -> x.rest(1, 0), x -> x.rest(2, 0), x -> x.mark(0, 0, NONE),
                x -> x.item(2, 1));
        Twins.same(INDEX, Twins.State.SOME, x -> x.mark(0, 4, NONE), x -> x.mark(1, 3, 100000),
                x -> x.mark(1, -1, -100000), x -> x.item(2, 3));
        Twins.same(NO, Twins.State.SOME, x -> x.rest(3, 0));
        Twins.same(SIZE, Twins.State.SOME, x -> x.sheet(0, 0, -1));
        // BAD ahead of NONE, with those that may answer both.
        Twins.same(BAD, Twins.State.TIGHT, x -> x.bookTold(0, 5), x -> x.setting(-3), x -> x.line(-1, 0),
                x -> x.line(0, 5), x -> x.cases(2), x -> x.few(4, -1), x -> x.few(1, 1), x -> x.apart(0),
                x -> x.why(3), x -> x.most(61, 0), x -> x.most(0, 2), x -> x.inch(991), x -> x.inch(-9),
                x -> x.shift(6, 101), x -> x.shift(0, 100), x -> x.judge(3));
    }

    private static void changesNothing() {
        Doc.says("Terms", "and changes nothing (but the tape and the numbers that wait, where told).");
        Twins.same(BAD, Twins.State.SOME, x -> x.book(LEAST, 0), x -> x.tie(5, true), x -> x.tie(-1, false),
                x -> x.deal(0), x -> x.deal(25), x -> x.set(0, 0), x -> x.set(0, 1000), x -> x.set(1, -1),
                x -> x.set(1, 10), x -> x.set(2, 0), x -> x.set(2, 1000), x -> x.set(3, 5), x -> x.board(0, 5, 0),
                x -> x.turns(2, 0), x -> x.turns(0, 6), x -> x.drop(2), x -> x.drop(-1), x -> x.allow(100),
                x -> x.trim(13), x -> x.trim(-1), x -> x.sheet(0, 0, 25), x -> x.sheet(0, 2, 1),
                x -> x.sheet(0, -2, 1), x -> x.mark(1, 0, 100000), x -> x.lay(1, 1, 2), x -> x.lay(1, 2, 4),
                x -> x.count(10), x -> x.judge(3), x -> x.told(0, 8), x -> x.textTold(0, 2), x -> x.wall(25, 1));
        Twins.same(INDEX, Twins.State.SOME, x -> x.copy(0, 0, 0, 1, 4), x -> x.copy(1, 0, 1, 2, 2));
        Twins.same(NOTHING, Twins.State.SOME, x -> x.lay(1, 2, 3), x -> x.lay(2, 2, 3), x -> x.lay(3, 2, 3));
        Twins.same(NO, Twins.State.SOME, x -> x.allow(31));
        Twins.same(NO, Twins.State.BARE, x -> x.back(), x -> x.check(1));
        // Where it is told: text() uses the tape up, check() the numbers that wait, whatever they answer.
        BookBoards x = Twins.made(Twins.State.FULL);
        Due.row(Due.of(FULL, 0, 60), x.text(), x.count(8), x.count(7));
        x = Twins.made(Twins.State.FULL);
        Due.row(Due.of(BAD, 0, 96), x.check(31), x.count(7), x.count(8));
    }

    private static void noneChangesNothing() {
        Doc.says("Terms", "NONE: there is none.");
        Twins.same(NONE, Twins.State.TIGHT, x -> x.bookTold(0, 4), x -> x.setting(-2), x -> x.setting(-1),
                x -> x.setting(0), x -> x.line(0, 0), x -> x.cases(0), x -> x.cases(1), x -> x.few(1, -1),
                x -> x.few(3, 2), x -> x.apart(1), x -> x.apart(100), x -> x.edge(), x -> x.fullBy(),
                x -> x.most(0, 0), x -> x.most(60, 1), x -> x.inch(0), x -> x.inch(99), x -> x.shift(0, 101),
                x -> x.shift(5, 9999));
        Twins.same(NONE, Twins.State.BARE, x -> x.setting(0), x -> x.line(0, 0), x -> x.few(1, -1), x -> x.fullBy(),
                x -> x.most(0, 0), x -> x.why(0), x -> x.why(1), x -> x.why(2), x -> x.judge(0), x -> x.judge(1));
        Twins.same(NONE, Twins.State.SOME, x -> x.setting(99), x -> x.line(99, 4), x -> x.shift(0, 9961));
    }

    private static void books24() {
        Doc.says("Terms 1", "BOOKS, 24 at most, numbered from 0 in their order,");
        BookBoards x = new BookBoards();
        for (int i = 0; i < 24; i++) {
            Due.row(Due.of(i, i + 1), x.book(100 * (i + 1) + 99 - i, i % 8), x.count(0));
        }
        for (int i = 0; i < 24; i++) {
            Due.row(Due.of(i + 1, 99 - i, i % 8), x.bookTold(i, 0), x.bookTold(i, 1), x.bookTold(i, 2));
        }
        x.sheet(0, 0, 1);
        x.mark(0, 0, 101);
        Due.row(Due.of(FULL, 0, FULL, 24), x.book(101, 0), x.deal(1), x.pour(0, 0), x.count(0));
        Due.all(BAD, x.bookTold(24, 0), x.bookTold(-1, 0));
    }

    private static void heightThicknessPart() {
        Doc.says("Terms 1", "each of a HEIGHT 1 .. 99, a THICKNESS 1 .. 99, a PART 0 .. 7,");
        BookBoards x = new BookBoards();
        for (int height = 1; height <= 99; height += 98) {
            for (int thick = 1; thick <= 99; thick += 98) {
                for (int part = 0; part <= 7; part += 7) {
                    int book = x.book(100 * height + thick, part);
                    Due.row(Due.of(height, thick, part), x.bookTold(book, 0), x.bookTold(book, 1),
                            x.bookTold(book, 2));
                }
            }
        }
        Due.is(8, x.count(0));
        // A height of 0 and of 100, a thickness of 0 and of 100 (that is the next height's 0), parts of -1 and 8.
        Due.all(BAD, x.book(1, 0), x.book(99, 0), x.book(10001, 0), x.book(10099, 0), x.book(100, 0), x.book(200, 0),
                x.book(9900, 0), x.book(10000, 0), x.book(101, -1), x.book(101, 8), x.book(9999, -1),
                x.book(9999, 8));
        Due.is(8, x.count(0));
    }

    private static void notTiedAtFirst() {
        Doc.says("Terms 1", "TIED to the next one or not (not, at first).");
        BookBoards x = new BookBoards();
        x.keep();
        x.book(2010, 0);
        x.book(2010, 0);
        x.sheet(0, 0, 2);
        x.mark(0, 0, 2010);
        x.mark(0, 1, 2010);
        x.pour(0, 0);
        x.deal(20);
        for (int i = 0; i < 24; i++) {
            Due.row(Due.of(0, 1), x.bookTold(i, 3), x.tie(i, true));
        }
        Due.is(24, x.count(5));
        // Books that come where tied ones were are new ones.
        x.back();
        x.book(2010, 0);
        x.pour(0, 0);
        x.deal(21);
        Due.row(Due.of(24, 0), x.count(0), x.count(5));
        for (int i = 0; i < 24; i++) {
            Due.is(0, x.bookTold(i, 3));
        }
    }

    private static void widthPlankCase() {
        Doc.says("Terms 1", "WIDTH of boards 1 .. 999 (100 at first), PLANK 0 .. 9 (2 at first), CASE (its height) "
                + "1 .. 999 (336 at first).");
        BookBoards x = new BookBoards();
        Due.row(Due.of(100, 1, 999), x.set(0, 1), x.set(0, 999), x.set(0, 100));
        Due.row(Due.of(2, 0, 9), x.set(1, 0), x.set(1, 9), x.set(1, 2));
        Due.row(Due.of(336, 1, 999), x.set(2, 1), x.set(2, 999), x.set(2, 336));
        Due.all(BAD, x.set(0, 0), x.set(0, 1000), x.set(1, -1), x.set(1, 10), x.set(2, 0), x.set(2, 1000));
        Due.row(Due.of(100, 2, 336), x.set(0, 100), x.set(1, 2), x.set(2, 336));
        // At first they count as told: 100 is taken, 101 is not; a line wants 2 more; 4 lines of 84 fill a case.
        BookBoards y = new BookBoards();
        y.book(8250, 0);
        y.book(8250, 0);
        Due.row(Due.of(84, 1), y.setting(-2), y.setting(-1));
        y.book(8201, 0);
        Due.row(Due.of(168, 2), y.setting(-2), y.setting(-1));
        for (int i = 0; i < 3; i++) {
            y.book(8299, 0);
        }
        Due.row(Due.of(1, 336), y.cases(0), y.cases(1));
        y.book(101, 0);
        Due.row(Due.of(1, 336), y.cases(0), y.cases(1));
        y.book(101, 0);
        Due.row(Due.of(2, 3), y.cases(0), y.cases(1));
    }

    private static void boards12() {
        Doc.says("Terms 1", "BOARDS, 12 at most, numbered from 0, told by hand, each of BOOKS from one to another one "
                + "(both, and all between), of a number h 0 .. 99, and of a KIND:");
        BookBoards x = new BookBoards();
        x.book(2001, 0);
        x.book(3010, 0);
        x.book(4020, 0);
        x.book(5030, 0);
        for (int i = 0; i < 12; i++) {
            Due.is(i, x.board(i % 6, 102, 9 * i));
        }
        Due.row(Due.of(FULL, 12, BAD, BAD), x.board(0, 102, 0), x.count(1), x.told(12, 0), x.told(-1, 0));
        Due.row(Due.of(0, 99), x.told(0, 3), x.told(11, 3));
        // Both ends and what is between, and nothing beside them.
        Due.row(Due.of(1, 2, 40, 30, 2), x.told(0, 1), x.told(0, 2), x.told(0, 4), x.told(0, 5), x.told(0, 6));
        BookBoards y = new BookBoards();
        y.book(9901, 0);
        y.book(1002, 0);
        y.book(9804, 0);
        y.book(2008, 0);
        y.book(9716, 0);
        y.board(0, 103, 0);
        y.board(0, 101, 0);
        y.board(0, 4, 0);
        Due.row(Due.of(98, 14, 3), y.told(0, 4), y.told(0, 5), y.told(0, 6));
        Due.row(Due.of(10, 2, 1), y.told(1, 4), y.told(1, 5), y.told(1, 6));
        Due.row(Due.of(99, 31, 5), y.told(2, 4), y.told(2, 5), y.told(2, 6));
        Due.all(BAD, y.board(0, 103, -1), y.board(0, 103, 100), y.board(-1, 103, 0), y.board(6, 103, 0));
        Due.is(3, y.count(1));
    }

    private static void kindsUnderOneAnother() {
        Doc.says("Terms 1", "0 BOARD; 1 RUN, 2 APART, 5 TOLD, under BOARD; 3 DEEP, under RUN; 4 LYING, under APART "
                + "(all are BOARDS).");
        boolean[][] is = {
            {true, false, false, false, false, false},
            {true, true, false, false, false, false},
            {true, false, true, false, false, false},
            {true, true, false, true, false, false},
            {true, false, true, false, true, false},
            {true, false, false, false, false, true}};
        BookBoards x = new BookBoards();
        x.book(2010, 0);
        for (int kind = 0; kind <= 5; kind++) {
            x.board(kind, 0, 50 + kind);
            x.lay(0, 1, kind);
            for (int other = 0; other <= 5; other++) {
                Due.is(is[kind][other] ? 50 + kind : KIND, x.as(kind, other));
                Due.is(is[kind][other] ? x.told(kind, 6) : KIND, x.ask(0, other));
            }
        }
        Due.all(BAD, x.as(0, -1), x.as(0, 6), x.ask(0, -1), x.ask(0, 6));
    }

    /** One board of each kind, of books 40 high and 99 thick together with one 30 high. */
    private static BookBoards ofEachKind(int h) {
        BookBoards x = new BookBoards();
        x.book(3050, 0);
        x.book(4049, 0);
        for (int kind = 0; kind <= 5; kind++) {
            x.board(kind, 1, h);
        }
        return x;
    }

    private static int[] toldOfAll(BookBoards x, int what) {
        return Due.of(x.told(0, what), x.told(1, what), x.told(2, what), x.told(3, what), x.told(4, what),
                x.told(5, what));
    }

    private static void wants() {
        Doc.says("Terms 1", "WANTS (height): BOARD: the greatest HEIGHT of its BOOKS. RUN: as BOARD, and 1. APART: as "
                + "BOARD, and 2. LYING: THICKNESS of all of them together. TOLD: h.");
        Doc.says("Terms 1", "(A KIND that is not named does as the one above it.)");
        Due.row(Due.of(40, 41, 42, 41, 99, 17), toldOfAll(ofEachKind(17), 4));
        Due.row(Due.of(40, 41, 42, 41, 99, 0), toldOfAll(ofEachKind(0), 4));
        Due.row(Due.of(40, 41, 42, 41, 99, 99), toldOfAll(ofEachKind(99), 4));
        // The least and the greatest that they can want.
        BookBoards x = new BookBoards();
        x.book(101, 0);
        for (int kind = 0; kind <= 5; kind++) {
            x.board(kind, 0, 99);
        }
        Due.row(Due.of(1, 2, 3, 2, 1, 99), toldOfAll(x, 4));
        Due.row(Due.of(99, 100, 101, 100, 24 * 99, 99), toldOfAll(ofAll(99), 4));
    }

    /** One board of each kind with 24 books, each as high and as thick as can be. */
    private static BookBoards ofAll(int h) {
        BookBoards x = new BookBoards();
        for (int i = 0; i < 24; i++) {
            x.book(9999, 0);
        }
        for (int kind = 0; kind <= 5; kind++) {
            x.board(kind, 23, h);
        }
        return x;
    }

    private static void takes() {
        Doc.says("Terms 1", "TAKES (width): BOARD: THICKNESS of all together. DEEP: half of as RUN, cut up. LYING: the "
                + "greatest HEIGHT.");
        Due.row(Due.of(99, 99, 99, 50, 40, 99), toldOfAll(ofEachKind(17), 5));
        Due.row(Due.of(2376, 2376, 2376, 1188, 99, 2376), toldOfAll(ofAll(0), 5));
        // Cut up: halves of 1, 2 and 3.
        BookBoards x = new BookBoards();
        x.book(2001, 0);
        x.book(2001, 0);
        x.book(2001, 0);
        x.board(3, 0, 0);
        x.board(3, 1, 0);
        x.board(3, 2, 0);
        Due.row(Due.of(1, 1, 2), x.told(0, 5), x.told(1, 5), x.told(2, 5));
    }

    private static void worth() {
        Doc.says("Terms 1", "WORTH: BOARD: how many BOOKS. RUN: as BOARD, and h. DEEP: as RUN, and 3. LYING: twice as "
                + "APART. TOLD: h less 1.");
        Due.row(Due.of(2, 19, 2, 22, 4, 16), toldOfAll(ofEachKind(17), 6));
        Due.row(Due.of(2, 2, 2, 5, 4, -1), toldOfAll(ofEachKind(0), 6));
        Due.row(Due.of(24, 123, 24, 126, 48, 98), toldOfAll(ofAll(99), 6));
    }

    private static void goodByWidth() {
        Doc.says("Terms 1", "A BOARD is GOOD, if it TAKES no more than WIDTH,");
        BookBoards x = ofEachKind(17);
        int[] takes = {99, 99, 99, 50, 40, 99};
        for (int kind = 0; kind <= 5; kind++) {
            x.set(0, takes[kind]);
            Due.is(1, x.told(kind, 7));
            x.set(0, takes[kind] - 1);
            Due.is(0, x.told(kind, 7));
            x.set(0, takes[kind] + 1);
            Due.is(1, x.told(kind, 7));
        }
        // What it wants does not matter.
        x.set(2, 1);
        Due.is(1, x.told(5, 7));
    }

    private static void goodByTies() {
        Doc.says("Terms 1", "its last BOOK is not TIED to a next one that there is, and the one ahead of its first "
                + "BOOK (if there is one) is not TIED.");
        BookBoards x = new BookBoards();
        for (int i = 0; i < 4; i++) {
            x.book(2010, 0);
        }
        x.board(0, 102, 0);
        x.board(0, 1, 0);
        x.board(0, 203, 0);
        x.board(0, 3, 0);
        boolean[][] good = {{false, true, true, true}, {true, false, false, true}, {false, true, true, true},
            {true, true, true, true}};
        for (int tied = 0; tied < 4; tied++) {
            x.tie(tied, true);
            for (int board = 0; board < 4; board++) {
                Due.is(good[tied][board] ? 1 : 0, x.told(board, 7));
            }
            x.tie(tied, false);
        }
        // The last of all is tied to none: until one more comes.
        x.tie(3, true);
        Due.row(Due.of(1, 1), x.told(2, 7), x.told(3, 7));
        x.book(2010, 0);
        Due.row(Due.of(0, 0, 1), x.told(2, 7), x.told(3, 7), x.told(1, 7));
        x.board(0, 404, 0);
        Due.is(0, x.told(4, 7));
        // With 24 books, the last one has no next one.
        BookBoards y = new BookBoards();
        for (int i = 0; i < 24; i++) {
            y.book(2001, 0);
        }
        y.tie(23, true);
        y.board(0, 23, 0);
        y.board(0, 2323, 0);
        Due.row(Due.of(1, 1), y.told(0, 7), y.told(1, 7));
        y.tie(22, true);
        Due.row(Due.of(1, 0), y.told(0, 7), y.told(1, 7));
    }
}
