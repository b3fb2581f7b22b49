/** Promises 1 to 7: a new object, book, bookTold, tie, deal, seed, set. */
public final class BooksTest {
    private static final int BAD = Due.BAD, FULL = Due.FULL, NONE = Due.NONE, NO = Due.NO, NOTHING = Due.NOTHING;
    private static final int LEAST = Integer.MIN_VALUE, GREATEST = Integer.MAX_VALUE;

    public static void main(String[] args) {
        promise1NewObject();
        promise2Book();
        promise3BookTold();
        promise4Tie();
        promise5Deal();
        promise6Seed();
        promise7Set();
        Due.end();
    }

    private static void promise1NewObject() {
        BookBoards x = new BookBoards();
        Due.row(Due.of(0, 0, 0, 0, 0, 0, 0, 0, 0, 1), x.count(0), x.count(1), x.count(2), x.count(3), x.count(4),
                x.count(5), x.count(6), x.count(7), x.count(8), x.count(9));
        Due.row(Due.of(0, 0, NONE), x.setting(-2), x.setting(-1), x.setting(0));
        Due.all(NOTHING, x.mark(0, 0, 0), x.mark(1, 0, 0), x.mark(2, 0, 0), x.mark(3, 0, 0));
        for (int slot = 0; slot < 5; slot++) {
            Due.all(NOTHING, x.ask(slot, 0), x.item(slot, 0), x.rest(slot, 1));
        }
        Due.all(NONE, x.why(0), x.why(1), x.why(2));
        Due.is(NO, x.back());
        Due.row(Due.of(100, 2, 336), x.set(0, 1), x.set(1, 0), x.set(2, 1));
    }

    private static void promise2Book() {
        BookBoards x = new BookBoards();
        Due.row(Due.of(0, 1, 2, 3), x.book(101, 0), x.book(9999, 7), x.book(199, 3), x.book(9901, 0));
        Due.row(Due.of(1, 1, 0), x.bookTold(0, 0), x.bookTold(0, 1), x.bookTold(0, 2));
        Due.row(Due.of(99, 99, 7), x.bookTold(1, 0), x.bookTold(1, 1), x.bookTold(1, 2));
        Due.row(Due.of(1, 99, 3), x.bookTold(2, 0), x.bookTold(2, 1), x.bookTold(2, 2));
        Due.all(BAD, x.book(100, 0), x.book(99, 0), x.book(1, 0), x.book(0, 0), x.book(-101, 0), x.book(10000, 0),
                x.book(10001, 0), x.book(2000, 0), x.book(9900, 0), x.book(LEAST, 0), x.book(GREATEST, 0));
        Due.all(BAD, x.book(101, -1), x.book(101, 8), x.book(101, LEAST), x.book(101, GREATEST));
        Due.is(4, x.count(0));
        for (int i = 4; i < 24; i++) {
            Due.is(i, x.book(2010, 1));
        }
        Due.all(FULL, x.book(2010, 1), x.book(101, 0));
        Due.all(BAD, x.book(100, 1), x.book(101, 8));
        Due.is(24, x.count(0));
    }

    private static void promise3BookTold() {
        BookBoards x = new BookBoards();
        Due.all(BAD, x.bookTold(0, 0), x.bookTold(-1, 0));
        x.book(3060, 2);
        x.book(3040, 5);
        x.book(2510, 7);
        Due.row(Due.of(30, 40, 5, 0, 0), x.bookTold(1, 0), x.bookTold(1, 1), x.bookTold(1, 2), x.bookTold(1, 3),
                x.bookTold(1, 4));
        Due.row(Due.of(0, 0, 1), x.bookTold(0, 4), x.bookTold(1, 4), x.bookTold(2, 4));
        x.tie(1, true);
        Due.row(Due.of(0, 1, 0), x.bookTold(0, 3), x.bookTold(1, 3), x.bookTold(2, 3));
        Due.row(Due.of(0, 1, 1), x.bookTold(0, 4), x.bookTold(1, 4), x.bookTold(2, 4));
        x.set(0, 59);
        Due.all(NONE, x.bookTold(0, 4), x.bookTold(1, 4), x.bookTold(2, 4));
        Due.all(BAD, x.bookTold(3, 0), x.bookTold(-1, 4), x.bookTold(0, -1), x.bookTold(0, 5), x.bookTold(LEAST, 0),
                x.bookTold(GREATEST, 0), x.bookTold(0, LEAST), x.bookTold(0, GREATEST), x.bookTold(24, 0));
    }

    private static void promise4Tie() {
        BookBoards x = new BookBoards();
        Due.all(BAD, x.tie(0, true), x.tie(0, false), x.tie(-1, true));
        x.book(2010, 0);
        x.book(2010, 0);
        Due.row(Due.of(0, 1, 0, 1, 0), x.tie(0, false), x.tie(0, true), x.tie(0, true), x.tie(0, false),
                x.tie(0, false));
        Due.is(1, x.tie(1, true));
        Due.is(1, x.bookTold(1, 3));
        Due.all(BAD, x.tie(2, true), x.tie(-1, false), x.tie(LEAST, true), x.tie(GREATEST, true));
        Due.is(1, x.count(5));
    }

    private static void promise5Deal() {
        BookBoards x = new BookBoards();
        Due.all(BAD, x.deal(0), x.deal(25), x.deal(-1), x.deal(LEAST), x.deal(GREATEST));
        Due.is(1, x.count(9));
        Due.is(2, x.deal(2));
        int z = 1;
        for (int book = 0; book < 2; book++) {
            int[] by = {30, 20, 8};
            int[] least = {20, 1, 0};
            for (int what = 0; what < 3; what++) {
                z = z * 1103515245 + 12345;
                Due.is(least[what] + (z >>> 8) % by[what], x.bookTold(book, what));
            }
        }
        Due.row(Due.of(34, 13, 4), x.bookTold(0, 0), x.bookTold(0, 1), x.bookTold(0, 2));
        Due.is(z, x.count(9));
        Due.is(0, x.count(5));
        Due.row(Due.of(21, 1, 0), x.deal(21), x.deal(24), x.deal(3));
        Due.is(24, x.count(0));
        z = x.count(9);
        Due.row(Due.of(0, z), x.deal(1), x.count(9));
        BookBoards y = new BookBoards();
        y.seed(-5);
        Due.is(24, y.deal(24));
        for (int i = 0; i < 24; i++) {
            Due.isTrue(y.bookTold(i, 0) >= 20 && y.bookTold(i, 0) < 50, "a height drawn");
            Due.isTrue(y.bookTold(i, 1) >= 1 && y.bookTold(i, 1) <= 20, "a thickness drawn");
            Due.isTrue(y.bookTold(i, 2) >= 0 && y.bookTold(i, 2) < 8, "a part drawn");
        }
    }

    private static void promise6Seed() {
        BookBoards x = new BookBoards();
        Due.row(Due.of(1, 7, LEAST, GREATEST, 0), x.seed(7), x.seed(LEAST), x.seed(GREATEST), x.seed(0), x.seed(-1));
        Due.is(-1, x.count(9));
        x.deal(1);
        x.seed(-1);
        x.deal(1);
        Due.is(x.bookTold(0, 0), x.bookTold(1, 0));
        Due.is(x.bookTold(0, 1), x.bookTold(1, 1));
        Due.is(x.bookTold(0, 2), x.bookTold(1, 2));
    }

    private static void promise7Set() {
        BookBoards x = new BookBoards();
        Due.row(Due.of(100, 1, 999), x.set(0, 1), x.set(0, 999), x.set(0, 50));
        Due.row(Due.of(2, 0, 9), x.set(1, 0), x.set(1, 9), x.set(1, 3));
        Due.row(Due.of(336, 1, 999), x.set(2, 1), x.set(2, 999), x.set(2, 77));
        Due.all(BAD, x.set(0, 0), x.set(0, 1000), x.set(0, -1), x.set(1, -1), x.set(1, 10), x.set(2, 0),
                x.set(2, 1000), x.set(2, -5), x.set(3, 1), x.set(-1, 1), x.set(LEAST, 1), x.set(GREATEST, 1),
                x.set(0, LEAST), x.set(1, GREATEST), x.set(2, LEAST));
        Due.row(Due.of(50, 3, 77), x.set(0, 50), x.set(1, 3), x.set(2, 77));
        x.book(2051, 0);
        Due.is(NONE, x.setting(-2));
        x.set(0, 51);
        Due.is(23, x.setting(-2));
        x.set(1, 4);
        Due.is(24, x.setting(-2));
        Due.is(1, x.cases(0));
        x.set(2, 23);
        Due.is(NONE, x.cases(0));
    }
}
