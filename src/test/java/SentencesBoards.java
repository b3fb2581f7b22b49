/** Promises 8 to 13: board, told, as, turns, drop, judge. */
final class SentencesBoards {
    private static final int BAD = Due.BAD, FULL = Due.FULL, NONE = Due.NONE, KIND = Due.KIND;
    private static final int LEAST = Integer.MIN_VALUE, GREATEST = Integer.MAX_VALUE;

    private SentencesBoards() {
    }

    static void all() {
        board();
        boardRefused();
        told();
        toldRefused();
        as();
        asBad();
        asKind();
        turns();
        turnsRefused();
        drop();
        dropRefused();
        judgeBoards();
        judgeBooks();
        judgeHeight();
        judgeRefused();
    }

    private static BookBoards ofBooks(int many) {
        BookBoards x = new BookBoards();
        for (int i = 0; i < many; i++) {
            x.book(100 * (20 + i) + 1 + i, i % 8);
        }
        return x;
    }

    private static void board() {
        Doc.says("Promise 8", "One more BOARD (books: 100 times the first, and the last; not below it): its number.");
        BookBoards x = ofBooks(24);
        Due.row(Due.of(0, 1, 2, 3), x.board(0, 0, 0), x.board(5, 23, 99), x.board(3, 2323, 50), x.board(1, 2223, 1));
        Due.row(Due.of(0, 0, 0, 0), x.told(0, 0), x.told(0, 1), x.told(0, 2), x.told(0, 3));
        Due.row(Due.of(5, 0, 23, 99), x.told(1, 0), x.told(1, 1), x.told(1, 2), x.told(1, 3));
        Due.row(Due.of(3, 23, 23, 50), x.told(2, 0), x.told(2, 1), x.told(2, 2), x.told(2, 3));
        Due.row(Due.of(1, 22, 23, 1), x.told(3, 0), x.told(3, 1), x.told(3, 2), x.told(3, 3));
        // All pairs of three books and their neighbours.
        BookBoards y = ofBooks(3);
        y.keep();
        for (int first = 0; first <= 4; first++) {
            for (int last = 0; last <= 4; last++) {
                boolean is = first <= last && last <= 2;
                Due.isTrue(y.board(0, 100 * first + last, 0) == (is ? 0 : BAD), first + " to " + last);
                y.back();
            }
        }
    }

    private static void boardRefused() {
        Doc.says("Promise 8", "BAD; FULL.");
        Twins.same(BAD, Twins.State.SOME, x -> x.board(-1, 0, 0), x -> x.board(6, 0, 0), x -> x.board(LEAST, 0, 0),
                x -> x.board(GREATEST, 0, 0), x -> x.board(0, -1, 0), x -> x.board(0, -100, 0), x -> x.board(0, 5, 0),
                x -> x.board(0, 505, 0), x -> x.board(0, 100, 0), x -> x.board(0, 403, 0), x -> x.board(0, 99, 0),
                x -> x.board(0, 10000, 0), x -> x.board(0, LEAST, 0), x -> x.board(0, GREATEST, 0),
                x -> x.board(0, 0, -1), x -> x.board(0, 0, 100), x -> x.board(0, 0, LEAST),
                x -> x.board(0, 0, GREATEST), x -> x.board(5, 0, -1), x -> x.board(5, 0, 100));
        Twins.same(BAD, Twins.State.BARE, x -> x.board(0, 0, 0));
        Twins.same(FULL, Twins.State.FULL, x -> x.board(0, 0, 0), x -> x.board(5, 2323, 99));
        Twins.same(BAD, Twins.State.FULL, x -> x.board(6, 0, 0), x -> x.board(0, 24, 0), x -> x.board(0, 0, 100));
        // One less than full is not full.
        BookBoards x = Twins.made(Twins.State.FULL);
        Due.row(Due.of(11, 11, FULL, 12), x.drop(0), x.board(0, 0, 0), x.board(0, 0, 0), x.count(1));
    }

    private static void told() {
        Doc.says("Promise 9",
                "Of a BOARD: what 0 KIND, 1 the first BOOK, 2 the last, 3 h, 4 WANTS, 5 TAKES, 6 WORTH, 7 "
                + "whether GOOD (1, 0).");
        BookBoards x = new BookBoards();
        x.book(2030, 0);
        x.book(4031, 0);
        x.book(3040, 0);
        x.board(3, 102, 5);
        Due.row(Due.of(3, 1, 2, 5, 41, 36, 10, 1), x.told(0, 0), x.told(0, 1), x.told(0, 2), x.told(0, 3),
                x.told(0, 4), x.told(0, 5), x.told(0, 6), x.told(0, 7));
        x.board(4, 1, 99);
        Due.row(Due.of(4, 0, 1, 99, 61, 40, 4, 1), x.told(1, 0), x.told(1, 1), x.told(1, 2), x.told(1, 3),
                x.told(1, 4), x.told(1, 5), x.told(1, 6), x.told(1, 7));
        x.set(0, 39);
        Due.row(Due.of(1, 0), x.told(0, 7), x.told(1, 7));
        x.set(0, 35);
        Due.row(Due.of(0, 0), x.told(0, 7), x.told(1, 7));
    }

    private static void toldRefused() {
        Doc.says("Promise 9", "BAD.");
        for (int what = -1; what <= 8; what++) {
            int of = what;
            Twins.same(BAD, Twins.State.SOME, x -> x.told(2, of), x -> x.told(-1, of));
        }
        Twins.same(BAD, Twins.State.SOME, x -> x.told(0, -1), x -> x.told(0, 8), x -> x.told(1, LEAST),
                x -> x.told(1, GREATEST), x -> x.told(LEAST, 0), x -> x.told(GREATEST, 0));
        Twins.same(BAD, Twins.State.BARE, x -> x.told(0, 0));
        Twins.same(BAD, Twins.State.FULL, x -> x.told(12, 0), x -> x.told(12, 7), x -> x.told(0, 8));
    }

    private static void as() {
        Doc.says("Promise 10", "A BOARD as one of a KIND: h.");
        BookBoards x = ofBooks(2);
        x.board(4, 1, 0);
        x.board(3, 1, 99);
        Due.row(Due.of(0, 0, 0), x.as(0, 4), x.as(0, 2), x.as(0, 0));
        Due.row(Due.of(99, 99, 99), x.as(1, 3), x.as(1, 1), x.as(1, 0));
    }

    private static void asBad() {
        Doc.says("Promise 10", "BAD: board, kind;");
        Twins.same(BAD, Twins.State.SOME, x -> x.as(2, 0), x -> x.as(-1, 0), x -> x.as(LEAST, 0),
                x -> x.as(GREATEST, 0), x -> x.as(0, -1), x -> x.as(0, 6), x -> x.as(0, LEAST), x -> x.as(0, GREATEST),
                x -> x.as(2, 6));
        Twins.same(BAD, Twins.State.BARE, x -> x.as(0, 0));
        Twins.same(BAD, Twins.State.FULL, x -> x.as(12, 0));
    }

    private static void asKind() {
        Doc.says("Promise 10", "KIND: it is not of that KIND, nor of one under it.");
        // Of the kind above it, not of the kind beside it; one above is not of one under it.
        BookBoards x = ofBooks(2);
        for (int kind = 0; kind <= 5; kind++) {
            x.board(kind, 1, 60 + kind);
        }
        Due.all(KIND, x.as(0, 1), x.as(0, 2), x.as(0, 3), x.as(0, 4), x.as(0, 5));
        Due.all(KIND, x.as(1, 2), x.as(1, 3), x.as(1, 4), x.as(1, 5));
        Due.all(KIND, x.as(2, 1), x.as(2, 3), x.as(2, 4), x.as(2, 5));
        Due.all(KIND, x.as(3, 2), x.as(3, 4), x.as(3, 5));
        Due.all(KIND, x.as(4, 1), x.as(4, 3), x.as(4, 5));
        Due.all(KIND, x.as(5, 1), x.as(5, 2), x.as(5, 3), x.as(5, 4));
        Due.row(Due.of(60, 61, 62, 63, 64, 65), x.as(0, 0), x.as(1, 1), x.as(2, 2), x.as(3, 3), x.as(4, 4),
                x.as(5, 5));
        Due.row(Due.of(61, 62, 63, 64, 65, 63, 64), x.as(1, 0), x.as(2, 0), x.as(3, 0), x.as(4, 0), x.as(5, 0),
                x.as(3, 1), x.as(4, 2));
        x.turns(0, 4);
        Due.row(Due.of(60, KIND), x.as(0, 2), x.as(0, 1));
    }

    private static void turns() {
        Doc.says("Promise 11", "A BOARD is of another KIND from now on: what it was.");
        BookBoards x = ofBooks(2);
        x.board(0, 1, 30);
        x.board(5, 1, 31);
        int was = 0;
        for (int kind = 5; kind >= 0; kind--) {
            Due.row(Due.of(was, kind, 0, 1, 30), x.turns(0, kind), x.told(0, 0), x.told(0, 1), x.told(0, 2),
                    x.told(0, 3));
            was = kind;
        }
        Due.row(Due.of(0, 5, 31), x.turns(0, 0), x.told(1, 0), x.told(1, 3));
        x.turns(0, 4);
        Due.row(Due.of(3, 21, 4), x.told(0, 4), x.told(0, 5), x.told(0, 6));
    }

    private static void turnsRefused() {
        Doc.says("Promise 11", "BAD.");
        Twins.same(BAD, Twins.State.SOME, x -> x.turns(2, 0), x -> x.turns(-1, 0), x -> x.turns(0, -1),
                x -> x.turns(0, 6), x -> x.turns(LEAST, 0), x -> x.turns(GREATEST, 0), x -> x.turns(0, LEAST),
                x -> x.turns(0, GREATEST));
        Twins.same(BAD, Twins.State.BARE, x -> x.turns(0, 0));
        Twins.same(BAD, Twins.State.FULL, x -> x.turns(12, 0), x -> x.turns(11, 6));
    }

    private static void drop() {
        Doc.says("Promise 12", "A BOARD goes; those with greater numbers have one less: how many there are.");
        BookBoards x = Twins.made(Twins.State.FULL);
        // Of 12: the last one, the first one, one in the midst; each is told by its h, 9 times its number at first.
        Due.row(Due.of(11, BAD, 90, 0), x.drop(11), x.told(11, 3), x.told(10, 3), x.told(0, 3));
        Due.row(Due.of(10, 9, 90, BAD), x.drop(0), x.told(0, 3), x.told(9, 3), x.told(10, 3));
        Due.row(Due.of(9, 36, 54, 90), x.drop(4), x.told(3, 3), x.told(4, 3), x.told(8, 3));
        Due.row(Due.of(0, 6, 7, 54), x.told(4, 0), x.told(4, 1), x.told(4, 2), x.told(4, 3));
        for (int left = 8; left >= 0; left--) {
            Due.row(Due.of(left, left), x.drop(0), x.count(1));
        }
        Due.row(Due.of(BAD, 0), x.drop(0), x.board(1, 0, 1));
    }

    private static void dropRefused() {
        Doc.says("Promise 12", "BAD.");
        Twins.same(BAD, Twins.State.SOME, x -> x.drop(2), x -> x.drop(-1), x -> x.drop(LEAST), x -> x.drop(GREATEST));
        Twins.same(BAD, Twins.State.BARE, x -> x.drop(0));
        Twins.same(BAD, Twins.State.FULL, x -> x.drop(12));
    }

    private static void judgeBoards() {
        Doc.says("Promise 13", "What 0: the first BOARD that is not GOOD;");
        BookBoards x = ofBooks(4);
        Due.is(NONE, x.judge(0));
        x.board(0, 1, 0);
        x.board(0, 203, 0);
        x.board(0, 3, 0);
        Due.is(NONE, x.judge(0));
        x.set(0, 10);
        Due.is(NONE, x.judge(0));
        x.set(0, 9);
        Due.is(2, x.judge(0));
        x.set(0, 6);
        Due.is(1, x.judge(0));
        x.set(0, 2);
        Due.is(0, x.judge(0));
        x.set(0, 100);
        x.tie(2, true);
        Due.is(NONE, x.judge(0));
        x.tie(1, true);
        Due.is(0, x.judge(0));
        x.drop(0);
        Due.is(0, x.judge(0));
        x.drop(0);
        Due.is(NONE, x.judge(0));
    }

    private static void judgeBooks() {
        Doc.says("Promise 13", "1: the first BOOK that is on no BOARD, or on more than one;");
        BookBoards x = new BookBoards();
        Due.is(NONE, x.judge(1));
        x = ofBooks(4);
        Due.is(0, x.judge(1));
        x.board(0, 2, 0);
        Due.is(3, x.judge(1));
        x.board(0, 303, 0);
        Due.is(NONE, x.judge(1));
        x.board(0, 203, 0);
        Due.is(2, x.judge(1));
        x.board(0, 0, 0);
        Due.is(0, x.judge(1));
        x.drop(3);
        x.drop(2);
        x.drop(0);
        Due.is(0, x.judge(1));
        x.board(0, 101, 0);
        x.board(0, 0, 0);
        Due.is(2, x.judge(1));
        // The last of 24.
        BookBoards y = ofBooks(24);
        y.board(0, 22, 0);
        Due.is(23, y.judge(1));
        y.board(0, 2323, 0);
        Due.is(NONE, y.judge(1));
        y.board(0, 2323, 0);
        Due.is(23, y.judge(1));
    }

    private static void judgeHeight() {
        Doc.says("Promise 13", "2: what all WANT together, and PLANK for each.");
        BookBoards x = ofBooks(4);
        Due.is(0, x.judge(2));
        x.board(0, 3, 0);
        Due.is(25, x.judge(2));
        x.board(2, 101, 0);
        Due.is(25 + 25, x.judge(2));
        x.board(4, 3, 0);
        Due.is(50 + 12, x.judge(2));
        x.set(1, 0);
        Due.is(56, x.judge(2));
        x.set(1, 9);
        Due.is(56 + 27, x.judge(2));
        // As much as can be.
        BookBoards y = new BookBoards();
        for (int i = 0; i < 24; i++) {
            y.book(9999, 0);
        }
        for (int i = 0; i < 12; i++) {
            y.board(4, 23, 0);
        }
        y.set(1, 9);
        Due.is(12 * (24 * 99 + 9), y.judge(2));
    }

    private static void judgeRefused() {
        Doc.says("Promise 13", "BAD; NONE.");
        Twins.same(BAD, Twins.State.SOME, x -> x.judge(-1), x -> x.judge(3), x -> x.judge(LEAST),
                x -> x.judge(GREATEST));
        Twins.same(BAD, Twins.State.BARE, x -> x.judge(-1), x -> x.judge(3));
        Twins.same(NONE, Twins.State.BARE, x -> x.judge(0), x -> x.judge(1));
        Twins.same(0, Twins.State.BARE, x -> x.judge(2));
    }
}
