/** Promises 40 to 44: tell, check, keep, back, count. */
public final class RowsTest {
    private static final int BAD = Due.BAD, FULL = Due.FULL, NONE = Due.NONE, NO = Due.NO, NOTHING = Due.NOTHING;
    private static final int LEAST = Integer.MIN_VALUE, GREATEST = Integer.MAX_VALUE;

    public static void main(String[] args) {
        promise40Tell();
        promise41Check();
        promise41Refused();
        promise41ByTheImage();
        promise42Keep();
        promise43Back();
        promise44Count();
        Due.end();
    }

    private static void promise40Tell() {
        BookBoards x = new BookBoards();
        for (int i = 1; i <= 60; i++) {
            Due.is(i, x.tell(i * 1000000007));
        }
        Due.row(Due.of(FULL, FULL, 60), x.tell(0), x.tell(LEAST), x.count(7));
        x.check(1);
        Due.row(Due.of(1, 2), x.tell(LEAST), x.tell(GREATEST));
    }

    /** One line, 30 thick, of parts 0 and 1. */
    private static BookBoards kept() {
        BookBoards x = new BookBoards();
        x.book(2010, 0);
        x.book(2020, 1);
        x.keep();
        return x;
    }

    private static int told(BookBoards x, int n, int... values) {
        for (int v : values) {
            x.tell(v);
        }
        int answer = x.check(n);
        Due.is(0, x.count(7));
        return answer;
    }

    private static void promise41Check() {
        BookBoards x = kept();
        Due.is(0, told(x, 1, 0, 32));
        Due.is(0, told(x, 3, 0, 32, 0, 34, 0, 36));
        Due.is(1, told(x, 1));
        Due.is(2, told(x, 1, 0));
        Due.is(1, told(x, 1, 1, 32));
        Due.is(2, told(x, 1, 0, 31));
        Due.is(3, told(x, 1, 0, 32, 0));
        Due.is(3, told(x, 1, 0, 32, 0, 34));
        Due.is(5, told(x, 3, 0, 32, 0, 34));
        Due.is(6, told(x, 3, 0, 32, 0, 34, 0));
        Due.is(6, told(x, 3, 0, 32, 0, 34, 0, 35));
        Due.is(7, told(x, 3, 0, 32, 0, 34, 0, 36, 0));
        Due.is(3, told(x, 3, 0, 32, 1, 34, 0, 36));
        int[] all = new int[60];
        for (int i = 0; i < 30; i++) {
            all[2 * i + 1] = 32 + 2 * i;
        }
        Due.is(0, told(x, 30, all));
        Due.is(59, told(x, 29, all));
        all[59]++;
        Due.is(60, told(x, 30, all));
    }

    private static void promise41Refused() {
        BookBoards x = new BookBoards();
        Due.row(Due.of(NO, BAD, BAD), told(x, 1, 0, 0), told(x, 0, 1), told(x, 31, 1));
        x.keep();
        Due.row(Due.of(NO, NO, BAD), told(x, 1, 0, 0), told(x, 30), told(x, 31));
        x.book(2050, 0);
        Due.is(NO, told(x, 1, 0, 51));
        x.set(0, 49);
        x.keep();
        x.set(0, 100);
        Due.is(NO, told(x, 1, 0, 51));
        x.keep();
        Due.is(0, told(x, 1, 0, 51));
        Due.all(BAD, told(x, 0, 0, 51), told(x, -1), told(x, LEAST), told(x, GREATEST), told(x, 31, 0, 51));
    }

    private static void promise41ByTheImage() {
        BookBoards x = new BookBoards();
        x.book(2060, 0);
        x.book(3050, 3);
        x.book(2050, 0);
        Due.text(x, "grow p*3+y");
        x.keep();
        // Lines of 60, and of 100 on which both parts grow: by 1 + y and 9 + y.
        Due.is(0, told(x, 2, 1, 100 + 1 + 10, 1, 111 + 2 + 11));
        x.book(2099, 1);
        x.set(0, 160);
        x.tie(0, true);
        Due.text(x, "grow 0");
        Due.text(x, "cost 1");
        x.allow(99);
        Due.is(0, told(x, 2, 1, 100 + 1 + 10, 1, 111 + 2 + 11));
        x.keep();
        Due.is(0, told(x, 1, 0, 160));
        // Asking by the image leaves what is now as it was.
        x.set(0, 999);
        Due.is(0, told(x, 1, 0, 160));
        Due.row(Due.of(1, 1, 999), x.setting(-2), x.setting(-1), x.set(0, 999));
    }

    private static void promise42Keep() {
        BookBoards x = new BookBoards();
        Due.is(0, x.keep());
        x.book(2010, 0);
        x.book(3010, 0);
        Due.is(0, x.back());
        x.book(2010, 0);
        Due.row(Due.of(1, 1), x.keep(), x.keep());
        x.book(2510, 0);
        x.keep();
        x.tie(0, true);
        Due.row(Due.of(2, 25, 0), x.back(), x.bookTold(1, 0), x.bookTold(0, 3));
    }

    private static BookBoards busy() {
        BookBoards x = new BookBoards();
        x.seed(5);
        x.book(2010, 3);
        x.book(3020, 4);
        x.tie(0, true);
        x.set(0, 90);
        x.set(1, 4);
        x.set(2, 200);
        x.board(1, 1, 8);
        x.board(2, 101, 9);
        x.allow(35);
        x.allow(45);
        Due.text(x, "cost h*2");
        Due.text(x, "walk 3");
        return x;
    }

    private static void askBusy(BookBoards x) {
        Due.row(Due.of(2, 2, 2, 2, 30, 1, 2), x.count(0), x.count(1), x.count(2), x.count(3), x.count(4), x.count(5),
                x.count(6));
        Due.is(5, x.count(9));
        Due.row(Due.of(20, 10, 3, 1, 0), x.bookTold(0, 0), x.bookTold(0, 1), x.bookTold(0, 2), x.bookTold(0, 3),
                x.bookTold(1, 3));
        Due.row(Due.of(1, 0, 1, 8), x.told(0, 0), x.told(0, 1), x.told(0, 2), x.told(0, 3));
        Due.row(Due.of(2, 1, 1, 9), x.told(1, 0), x.told(1, 1), x.told(1, 2), x.told(1, 3));
        Due.row(Due.of(70, 1, 35, 39), x.setting(-2), x.setting(-1), x.line(0, 3), x.cases(1));
        Due.row(Due.of(0, 1, NONE, 0, 1), x.why(0), x.why(1), x.why(2), x.textTold(0, 0), x.textTold(1, 0));
        Due.is(76, x.apart(1));
        Due.row(Due.of(90, 4, 200), x.set(0, 90), x.set(1, 4), x.set(2, 200));
    }

    private static void disturb(BookBoards x) {
        x.tie(0, false);
        x.deal(3);
        x.set(0, 100);
        x.set(1, 0);
        x.set(2, 1);
        x.turns(0, 5);
        x.drop(1);
        x.board(0, 4, 0);
        x.board(0, 4, 0);
        x.clear();
        x.allow(99);
        Due.text(x, "cost 1");
        Due.text(x, "grow 1");
    }

    private static void promise43Back() {
        BookBoards x = new BookBoards();
        x.book(2010, 0);
        Due.row(Due.of(NO, 1), x.back(), x.count(0));
        x = busy();
        askBusy(x);
        Due.is(2, x.keep());
        for (int i = 0; i < 3; i++) {
            disturb(x);
            Due.is(2, x.back());
            askBusy(x);
        }
        // Sheets, slots, numbers that wait and the tape stay as they are.
        x.sheet(0, 0, 2);
        x.mark(0, 1, 9);
        x.lay(0, 3, 12);
        x.tell(1);
        x.tell(2);
        x.feed(1, 2, 3);
        Due.is(2, x.back());
        Due.row(Due.of(2, 12, 2), x.count(7), x.count(8), x.rest(0, 10));
        x.lay(1, 2, 0);
        Due.is(9, x.item(1, 1));
        x.keep();
        x.sheet(0, -1, 0);
        x.lay(0, 0, 0);
        x.check(1);
        x.trim(0);
        x.back();
        Due.row(Due.of(0, 0, NOTHING, NOTHING), x.count(7), x.count(8), x.rest(0, 10), x.mark(0, 0, 0));
        // The image does not change with what is now.
        disturb(x);
        x.back();
        askBusy(x);
    }

    private static void promise44Count() {
        BookBoards x = new BookBoards();
        Due.all(BAD, x.count(-1), x.count(10), x.count(LEAST), x.count(GREATEST));
        x.book(2010, 0);
        x.book(2020, 0);
        x.book(3099, 0);
        x.tie(2, true);
        x.tie(0, true);
        x.board(0, 0, 0);
        Due.text(x, "grow 1");
        x.allow(5);
        x.allow(6);
        x.tell(9);
        x.feed(0, 0, 0);
        x.trim(7);
        x.seed(-3);
        Due.row(Due.of(3, 1, 1, 2, 129, 2, 2, 1, 7, -3), x.count(0), x.count(1), x.count(2), x.count(3), x.count(4),
                x.count(5), x.count(6), x.count(7), x.count(8), x.count(9));
        x.deal(24);
        Due.is(24, x.count(0));
        Due.all(BAD, x.count(-1), x.count(10));
        BookBoards y = new BookBoards();
        for (int i = 0; i < 24; i++) {
            y.book(100 * (99 - i) + 99, 0);
            y.tie(i, true);
        }
        Due.row(Due.of(24, 24 * 99, 24, 24), y.count(0), y.count(4), y.count(5), y.count(6));
    }
}
