/** Promises 8 to 13: board, told, as, turns, drop, judge. */
public final class BoardsTest {
    private static final int BAD = Due.BAD, FULL = Due.FULL, NONE = Due.NONE, KIND = Due.KIND;
    private static final int LEAST = Integer.MIN_VALUE, GREATEST = Integer.MAX_VALUE;

    public static void main(String[] args) {
        promise8Board();
        promise9Told();
        promise9Good();
        promise10As();
        promise11Turns();
        promise12Drop();
        promise13Judge();
        Due.end();
    }

    /** Books of heights 20, 31, 25, 40 and thicknesses 10, 15, 7, 30. */
    private static BookBoards fourBooks() {
        BookBoards x = new BookBoards();
        x.book(2010, 0);
        x.book(3115, 1);
        x.book(2507, 2);
        x.book(4030, 3);
        return x;
    }

    private static void promise8Board() {
        BookBoards x = new BookBoards();
        Due.all(BAD, x.board(0, 0, 0), x.board(0, 1, 0));
        x = fourBooks();
        Due.row(Due.of(0, 1, 2), x.board(0, 0, 0), x.board(5, 3, 99), x.board(3, 303, 50));
        Due.row(Due.of(0, 0, 0, 0), x.told(0, 0), x.told(0, 1), x.told(0, 2), x.told(0, 3));
        Due.row(Due.of(5, 0, 3, 99), x.told(1, 0), x.told(1, 1), x.told(1, 2), x.told(1, 3));
        Due.row(Due.of(3, 3, 3, 50), x.told(2, 0), x.told(2, 1), x.told(2, 2), x.told(2, 3));
        Due.all(BAD, x.board(-1, 0, 0), x.board(6, 0, 0), x.board(LEAST, 0, 0), x.board(GREATEST, 0, 0));
        Due.all(BAD, x.board(0, 4, 0), x.board(0, 404, 0), x.board(0, 100, 0), x.board(0, 302, 0), x.board(0, -1, 0),
                x.board(0, -100, 0), x.board(0, LEAST, 0), x.board(0, GREATEST, 0), x.board(0, 99, 0));
        Due.all(BAD, x.board(0, 0, -1), x.board(0, 0, 100), x.board(0, 0, LEAST), x.board(0, 0, GREATEST));
        Due.is(3, x.count(1));
        for (int i = 3; i < 12; i++) {
            Due.is(i, x.board(1, 102, 1));
        }
        Due.is(FULL, x.board(0, 0, 0));
        Due.all(BAD, x.board(6, 0, 0), x.board(0, 4, 0), x.board(0, 0, 100));
        Due.is(12, x.count(1));
    }

    private static void promise9Told() {
        BookBoards x = fourBooks();
        for (int kind = 0; kind < 6; kind++) {
            x.board(kind, 2, 9);
        }
        Due.row(Due.of(31, 32, 33, 32, 32, 9), x.told(0, 4), x.told(1, 4), x.told(2, 4), x.told(3, 4), x.told(4, 4),
                x.told(5, 4));
        Due.row(Due.of(32, 32, 32, 16, 31, 32), x.told(0, 5), x.told(1, 5), x.told(2, 5), x.told(3, 5),
                x.told(4, 5), x.told(5, 5));
        Due.row(Due.of(3, 12, 3, 15, 6, 8), x.told(0, 6), x.told(1, 6), x.told(2, 6), x.told(3, 6), x.told(4, 6),
                x.told(5, 6));
        BookBoards y = new BookBoards();
        y.book(5010, 0);
        y.book(2020, 0);
        y.book(4030, 0);
        y.board(0, 1, 0);
        y.board(0, 101, 0);
        y.board(4, 102, 0);
        Due.row(Due.of(50, 20, 50), y.told(0, 4), y.told(1, 4), y.told(2, 4));
        Due.row(Due.of(30, 20, 40), y.told(0, 5), y.told(1, 5), y.told(2, 5));
        x.board(3, 101, 0);
        Due.row(Due.of(8, 32, 4), x.told(6, 5), x.told(6, 4), x.told(6, 6));
        x.board(4, 203, 0);
        Due.row(Due.of(37, 40, 4), x.told(7, 4), x.told(7, 5), x.told(7, 6));
        x.board(5, 0, 0);
        Due.row(Due.of(0, 10, -1), x.told(8, 4), x.told(8, 5), x.told(8, 6));
        Due.all(BAD, x.told(9, 0), x.told(-1, 0), x.told(0, 8), x.told(0, -1), x.told(LEAST, 0), x.told(GREATEST, 0),
                x.told(0, LEAST), x.told(0, GREATEST), x.told(12, 0));
    }

    private static void promise9Good() {
        BookBoards x = fourBooks();
        x.board(0, 102, 0);
        x.board(0, 3, 0);
        x.board(3, 3, 0);
        x.board(4, 3, 0);
        Due.row(Due.of(1, 1, 1, 1), x.told(0, 7), x.told(1, 7), x.told(2, 7), x.told(3, 7));
        x.set(0, 62);
        Due.is(1, x.told(1, 7));
        x.set(0, 61);
        Due.row(Due.of(1, 0, 1, 1), x.told(0, 7), x.told(1, 7), x.told(2, 7), x.told(3, 7));
        x.set(0, 39);
        Due.row(Due.of(1, 0, 1, 0), x.told(0, 7), x.told(1, 7), x.told(2, 7), x.told(3, 7));
        x.set(0, 100);
        x.tie(0, true);
        Due.row(Due.of(0, 1), x.told(0, 7), x.told(1, 7));
        x.tie(0, false);
        x.tie(1, true);
        Due.row(Due.of(1, 1), x.told(0, 7), x.told(1, 7));
        x.tie(2, true);
        Due.row(Due.of(0, 1), x.told(0, 7), x.told(1, 7));
        x.tie(2, false);
        x.tie(3, true);
        Due.row(Due.of(1, 1), x.told(0, 7), x.told(1, 7));
        x.book(2001, 0);
        Due.row(Due.of(1, 0), x.told(0, 7), x.told(1, 7));
    }

    private static void promise10As() {
        BookBoards x = fourBooks();
        for (int kind = 0; kind < 6; kind++) {
            x.board(kind, 2, 10 + kind);
        }
        int[] above = {-1, 0, 0, 1, 2, 0};
        for (int kind = 0; kind < 6; kind++) {
            for (int as = 0; as < 6; as++) {
                boolean is = kind == as || as == 0 || above[kind] == as;
                Due.is(is ? 10 + kind : KIND, x.as(kind, as));
            }
        }
        Due.all(BAD, x.as(6, 0), x.as(-1, 0), x.as(0, -1), x.as(0, 6), x.as(LEAST, 0), x.as(GREATEST, 0),
                x.as(0, LEAST), x.as(0, GREATEST), new BookBoards().as(0, 0));
    }

    private static void promise11Turns() {
        BookBoards x = fourBooks();
        x.board(1, 2, 9);
        x.board(0, 101, 4);
        Due.row(Due.of(1, 4, 4, 0), x.turns(0, 4), x.turns(0, 4), x.turns(0, 0), x.turns(0, 5));
        Due.row(Due.of(5, 0, 2, 9, 9), x.told(0, 0), x.told(0, 1), x.told(0, 2), x.told(0, 3), x.told(0, 4));
        Due.all(BAD, x.turns(2, 0), x.turns(-1, 0), x.turns(0, 6), x.turns(0, -1), x.turns(LEAST, 0),
                x.turns(0, GREATEST));
        Due.row(Due.of(5, 0), x.told(0, 0), x.told(1, 0));
    }

    private static void promise12Drop() {
        BookBoards x = fourBooks();
        Due.is(BAD, x.drop(0));
        for (int i = 0; i < 4; i++) {
            x.board(i, 101 * i, 20 + i);
        }
        Due.all(BAD, x.drop(4), x.drop(-1), x.drop(LEAST), x.drop(GREATEST));
        Due.is(3, x.drop(1));
        Due.row(Due.of(0, 2, 3, BAD), x.told(0, 0), x.told(1, 0), x.told(2, 0), x.told(3, 0));
        Due.row(Due.of(20, 22, 23), x.told(0, 3), x.told(1, 3), x.told(2, 3));
        Due.row(Due.of(0, 2, 3), x.told(0, 1), x.told(1, 2), x.told(2, 1));
        Due.row(Due.of(2, 1, 0, BAD), x.drop(2), x.drop(0), x.drop(0), x.drop(0));
        Due.is(0, x.board(5, 0, 7));
        Due.is(7, x.told(0, 4));
        for (int i = 1; i < 12; i++) {
            x.board(0, 0, 30 + i);
        }
        Due.row(Due.of(11, 31, 41, BAD), x.drop(0), x.told(0, 3), x.told(10, 3), x.told(11, 3));
        Due.row(Due.of(10, 31, 40), x.drop(10), x.told(0, 3), x.told(9, 3));
    }

    private static void promise13Judge() {
        BookBoards x = new BookBoards();
        Due.row(Due.of(NONE, NONE, 0), x.judge(0), x.judge(1), x.judge(2));
        Due.all(BAD, x.judge(-1), x.judge(3), x.judge(LEAST), x.judge(GREATEST));
        x = fourBooks();
        Due.row(Due.of(NONE, 0, 0), x.judge(0), x.judge(1), x.judge(2));
        x.board(0, 1, 0);
        Due.row(Due.of(NONE, 2, 33), x.judge(0), x.judge(1), x.judge(2));
        x.board(5, 203, 12);
        Due.row(Due.of(NONE, NONE, 47), x.judge(0), x.judge(1), x.judge(2));
        x.board(1, 101, 0);
        Due.row(Due.of(NONE, 1, 81), x.judge(0), x.judge(1), x.judge(2));
        x.set(1, 0);
        Due.is(75, x.judge(2));
        x.set(0, 36);
        Due.is(1, x.judge(0));
        x.set(0, 100);
        x.tie(0, true);
        Due.is(2, x.judge(0));
        x.tie(1, true);
        Due.is(0, x.judge(0));
        Due.all(BAD, x.judge(-1), x.judge(3));
    }
}
