/** Promises 27 to 31: fullBy, most, wall, inch, shift. */
public final class YearsTest {
    private static final int BAD = Due.BAD, FULL = Due.FULL, NONE = Due.NONE;
    private static final int LEAST = Integer.MIN_VALUE, GREATEST = Integer.MAX_VALUE;

    public static void main(String[] args) {
        promise27FullBy();
        promise28Most();
        promise29Wall();
        promise30Inch();
        promise31Shift();
        Due.end();
    }

    /** Two lines of a width of 100: books 0 to 2 (60 thick), and 3 and 4 (60 thick). */
    private static BookBoards twoLines() {
        BookBoards x = new BookBoards();
        x.book(2010, 1);
        x.book(2020, 2);
        x.book(2030, 1);
        x.book(2050, 2);
        x.book(2010, 3);
        return x;
    }

    private static void promise27FullBy() {
        BookBoards x = new BookBoards();
        Due.is(NONE, x.fullBy());
        x.book(2040, 0);
        Due.is(NONE, x.fullBy());
        // One part that grows by 1 each year: 100 is not more than the width, 101 is.
        x.set(0, 99);
        Due.is(60, x.fullBy());
        x.set(0, 100);
        Due.is(NONE, x.fullBy());
        x.set(0, 40);
        Due.is(1, x.fullBy());
        x.set(0, 39);
        Due.is(NONE, x.fullBy());
        x = twoLines();
        // Part 1 grows at line 0, parts 2 and 3 at line 1.
        Due.row(Due.of(0, 3, 21), x.setting(0), x.setting(1), x.fullBy());
        Due.text(x, "grow p*(p<3)");
        Due.is(21, x.fullBy());
        Due.text(x, "grow (y=7)*(p=1)*41");
        Due.is(7, x.fullBy());
        Due.text(x, "grow (y=60)*(p=1)*41");
        Due.is(60, x.fullBy());
        Due.text(x, "grow (y=61)*41");
        Due.is(NONE, x.fullBy());
        // Held within 0 .. 99, each year by itself.
        Due.text(x, "grow 5-y*3");
        Due.row(Due.of(64, 64, NONE), x.most(1, 1), x.most(60, 1), x.fullBy());
        Due.text(x, "grow 1000*(y=2)");
        Due.row(Due.of(2, 1, 258), x.fullBy(), x.most(2, 0), x.most(2, 1));
        Due.text(x, "grow 0");
        Due.is(NONE, x.fullBy());
        // What grew at an earlier call does not count where there are no lines any more.
        BookBoards y = new BookBoards();
        y.keep();
        y.book(2099, 0);
        Due.text(y, "grow 99");
        Due.row(Due.of(1, 198), y.fullBy(), y.most(1, 1));
        y.back();
        Due.row(Due.of(NONE, NONE, NONE), y.fullBy(), y.most(1, 1), y.most(0, 0));
        // Nothing grows for a part of which there is no book.
        Due.text(x, "grow (p=0)*50");
        Due.is(NONE, x.fullBy());
    }

    private static void promise28Most() {
        BookBoards x = new BookBoards();
        Due.all(NONE, x.most(0, 0), x.most(60, 1));
        Due.all(BAD, x.most(-1, 0), x.most(61, 0), x.most(0, -1), x.most(0, 2), x.most(LEAST, 0),
                x.most(GREATEST, 0), x.most(0, LEAST));
        x = twoLines();
        // Both are 60 thick: the least one. Then two parts grow at line 1.
        Due.row(Due.of(0, 60, 1, 62, 1, 180), x.most(0, 0), x.most(0, 1), x.most(1, 0), x.most(1, 1), x.most(60, 0),
                x.most(60, 1));
        Due.text(x, "grow (p=1)*y");
        Due.row(Due.of(0, 61, 0, 66), x.most(1, 0), x.most(1, 1), x.most(3, 0), x.most(3, 1));
        Due.text(x, "grow (p=2)*(y=1)*5+(p=1)*(y=3)*6");
        Due.row(Due.of(1, 65, 1, 65, 0, 66), x.most(1, 0), x.most(1, 1), x.most(2, 0), x.most(2, 1), x.most(3, 0),
                x.most(3, 1));
        Due.all(BAD, x.most(-1, 0), x.most(61, 0), x.most(0, 2), x.most(0, -1));
        x.set(0, 49);
        Due.all(NONE, x.most(0, 0), x.most(5, 1));
        Due.is(BAD, x.most(61, 0));
    }

    private static void promise29Wall() {
        BookBoards x = new BookBoards();
        Due.row(Due.of(0, 0), x.wall(0, 1), x.wall(24, 99));
        Due.all(BAD, x.wall(-1, 1), x.wall(25, 1), x.wall(0, 0), x.wall(0, 100), x.wall(LEAST, 1),
                x.wall(GREATEST, 1), x.wall(1, LEAST), x.wall(1, GREATEST));
        x.book(2040, 0);
        x.book(3060, 0);
        x.book(2099, 0);
        x.book(2001, 0);
        x.book(2001, 0);
        Due.row(Due.of(0, 2, 4, 5, 5), x.wall(0, 99), x.wall(1, 30), x.wall(2, 30), x.wall(3, 30), x.wall(24, 99));
        Due.row(Due.of(1, 0, 1), x.wall(3, 29), x.wall(3, 19), x.wall(3, 20));
        BookBoards y = new BookBoards();
        y.book(2001, 0);
        y.book(2001, 0);
        Due.row(Due.of(0, 2, 2), y.wall(0, 99), y.wall(1, 20), y.wall(2, 20));
        y.set(0, 1);
        Due.row(Due.of(0, 1, 2, 2), y.wall(0, 99), y.wall(1, 20), y.wall(2, 20), y.wall(3, 20));
        x.tie(1, true);
        Due.is(2, x.wall(1, 30));
        x.allow(10);
        Due.row(Due.of(2, NONE), x.wall(1, 30), x.setting(-2));
        x.set(0, 98);
        Due.row(Due.of(1, 2, 2, 2), x.wall(1, 99), x.wall(2, 99), x.wall(3, 99), x.wall(24, 99));
    }

    private static void promise30Inch() {
        BookBoards x = new BookBoards();
        Due.row(Due.of(0, 0, 0, BAD, BAD, BAD, BAD), x.inch(0), x.inch(-99), x.inch(899), x.inch(-100), x.inch(900),
                x.inch(LEAST), x.inch(GREATEST));
        x.book(2060, 0);
        x.book(3050, 0);
        x.book(2040, 0);
        Due.row(Due.of(54, 0), x.setting(-2), x.inch(0));
        Due.row(Due.of(32 - 54, 0, 0), x.inch(50), x.inch(49), x.inch(-10));
        Due.row(Due.of(76 - 54, 76 - 54, NONE), x.inch(-11), x.inch(-40), x.inch(-41));
        Due.row(Due.of(BAD, NONE, 32 - 54, BAD), x.inch(-100), x.inch(-99), x.inch(899), x.inch(900));
        Due.row(Due.of(54, 100), x.setting(-2), x.set(0, 59));
        Due.row(Due.of(NONE, NONE, BAD), x.inch(1), x.inch(0), x.inch(-59));
        x.set(0, 999);
        Due.row(Due.of(BAD, 22, BAD), x.inch(1), x.inch(-899), x.inch(GREATEST));
        x.set(0, 1);
        Due.row(Due.of(BAD, NONE, BAD), x.inch(-1), x.inch(998), x.inch(999));
    }

    private static void promise31Shift() {
        BookBoards x = new BookBoards();
        Due.row(Due.of(0, BAD, BAD), x.shift(0, 2010), x.shift(1, 2010), x.shift(-1, 2010));
        x.set(0, 10);
        Due.is(NONE, x.shift(0, 2011));
        x.set(0, 100);
        for (int i = 0; i < 6; i++) {
            x.book(2050, 0);
        }
        // Pairs: one more of 50 at a place moves those behind it that stood second.
        Due.row(Due.of(3, 3, 2, 0), x.shift(0, 2050), x.shift(1, 2050), x.shift(2, 2050), x.shift(6, 2050));
        Due.row(Due.of(6, 5, 4), x.shift(0, 2099), x.shift(1, 2099), x.shift(2, 2099));
        Due.row(Due.of(6, 3), x.count(0), x.setting(-1));
        Due.all(BAD, x.shift(7, 2050), x.shift(-1, 2050), x.shift(0, 2000), x.shift(0, 100), x.shift(0, 10000),
                x.shift(LEAST, 2050), x.shift(GREATEST, 2050), x.shift(0, LEAST), x.shift(0, GREATEST));
        // The height of what comes counts: a low one is set by itself ahead of both, a high one with the first.
        x = new BookBoards();
        x.book(2050, 0);
        x.book(9040, 0);
        Due.row(Due.of(1, 2, 1, 1), x.setting(-1), x.shift(0, 1020), x.shift(0, 9020), x.shift(0, 2020));
        Due.row(Due.of(0, 1, 0, 1), x.shift(0, 1010), x.shift(1, 1020), x.shift(2, 1060), x.shift(2, 9060));
        // A tie is parted where the book comes, and there alone.
        x = new BookBoards();
        x.book(2050, 0);
        x.book(2050, 0);
        x.book(2050, 0);
        x.tie(0, true);
        Due.row(Due.of(2, 0), x.shift(1, 2060), x.shift(3, 2040));
        Due.is(3, x.shift(0, 2060));
        Due.is(1, x.bookTold(0, 3));
        x.tie(1, true);
        Due.is(NONE, x.shift(1, 2050));
        x.set(0, 150);
        Due.row(Due.of(3, 2, 1, 0), x.shift(0, 2050), x.shift(1, 2099), x.shift(2, 2050), x.shift(3, 2050));
        for (int i = 3; i < 24; i++) {
            x.book(2050, 0);
        }
        Due.all(FULL, x.shift(0, 2050), x.shift(24, 2050));
        Due.all(BAD, x.shift(25, 2050), x.shift(0, 2000), x.shift(-1, 101));
        Due.is(24, x.count(0));
    }
}
