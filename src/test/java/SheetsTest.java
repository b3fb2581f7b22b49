/** Promises 32 to 39: sheet, mark, pour, copy, lay, ask, item, rest. */
public final class SheetsTest {
    private static final int BAD = Due.BAD, FULL = Due.FULL, NONE = Due.NONE, NO = Due.NO, NOTHING = Due.NOTHING,
            KIND = Due.KIND, INDEX = Due.INDEX, SIZE = Due.SIZE;
    private static final int LEAST = Integer.MIN_VALUE, GREATEST = Integer.MAX_VALUE;

    public static void main(String[] args) {
        promise32Sheet();
        promise33Mark();
        promise34Pour();
        promise35Copy();
        promise35CopyWrong();
        promise36Lay();
        promise37Ask();
        promise38Item();
        promise39Rest();
        Due.end();
    }

    private static void promise32Sheet() {
        BookBoards x = new BookBoards();
        Due.row(Due.of(0, 24, 3, 1), x.sheet(0, 0, 0), x.sheet(1, 0, 24), x.sheet(2, 1, 3), x.sheet(3, 1, 1));
        Due.row(Due.of(INDEX, 0, 0, INDEX, 0, INDEX, 0), Due.at(x, 0, 0), Due.at(x, 1, 0), Due.at(x, 1, 23), Due.at(x,
                1, 24),
                Due.at(x, 2, 2), Due.at(x, 2, 3), Due.at(x, 3, 0));
        Due.all(BAD, x.sheet(-1, 0, 1), x.sheet(4, 0, 1), x.sheet(0, 2, 1), x.sheet(0, -2, 1), x.sheet(0, 0, 25),
                x.sheet(0, 1, 25), x.sheet(LEAST, 0, 1), x.sheet(GREATEST, 0, 1), x.sheet(0, LEAST, 1),
                x.sheet(0, GREATEST, 1), x.sheet(0, 1, GREATEST), x.sheet(4, 0, -1), x.sheet(0, 2, -1));
        Due.all(SIZE, x.sheet(0, 0, -1), x.sheet(1, 1, -1), x.sheet(2, 0, LEAST));
        x.mark(1, 5, 77);
        Due.is(77, Due.at(x, 1, 5));
        Due.all(BAD, x.sheet(1, 0, 25), x.sheet(1, 3, 6));
        Due.is(77, Due.at(x, 1, 5));
        Due.is(6, x.sheet(1, 0, 6));
        Due.is(0, Due.at(x, 1, 5));
        Due.row(Due.of(0, 0, 0), x.sheet(1, -1, 5), x.sheet(1, -1, GREATEST), x.sheet(2, -1, -7));
        Due.row(Due.of(NOTHING, NOTHING), x.mark(1, 0, 0), x.mark(2, 0, 0));
        Due.is(BAD, x.sheet(4, -1, 0));
    }

    private static void promise33Mark() {
        BookBoards x = new BookBoards();
        Due.all(NOTHING, x.mark(0, 0, 0), x.mark(0, -1, NONE), x.mark(3, 99, 100000));
        Due.all(BAD, x.mark(-1, 0, 0), x.mark(4, 0, 0), x.mark(LEAST, 0, 0), x.mark(GREATEST, 0, 0));
        x.sheet(0, 0, 4);
        Due.all(1, x.mark(0, 0, 32767), x.mark(0, 1, 32768), x.mark(0, 2, -32769), x.mark(0, 3, GREATEST));
        Due.row(Due.of(32767, -32768, 32767, -1), Due.at(x, 0, 0), Due.at(x, 0, 1), Due.at(x, 0, 2), Due.at(x, 0, 3));
        Due.all(1, x.mark(0, 0, LEAST), x.mark(0, 1, 65537), x.mark(0, 2, 100000));
        Due.row(Due.of(0, 1, 100000 - 131072), Due.at(x, 0, 0), Due.at(x, 0, 1), Due.at(x, 0, 2));
        Due.all(INDEX, x.mark(0, 4, 0), x.mark(0, -1, 0), x.mark(0, 4, NONE), x.mark(0, LEAST, 0),
                x.mark(0, GREATEST, 0));
        Due.is(KIND, x.mark(0, 1, NONE));
        Due.is(1, Due.at(x, 0, 1));
        x.sheet(1, 1, 3);
        Due.all(1, x.mark(1, 0, 99999), x.mark(1, 1, -99999), x.mark(1, 2, NONE));
        Due.row(Due.of(99999, -99999, KIND), Due.at(x, 1, 0), Due.at(x, 1, 1), Due.at(x, 1, 2));
        Due.all(BAD, x.mark(1, 0, 100000), x.mark(1, 0, -100000), x.mark(1, 0, LEAST), x.mark(1, 0, GREATEST),
                x.mark(1, 0, NONE + 1));
        Due.all(INDEX, x.mark(1, 3, 100000), x.mark(1, 3, NONE), x.mark(1, -1, 0));
        Due.row(Due.of(99999, 1, 5), Due.at(x, 1, 0), x.mark(1, 2, 5), Due.at(x, 1, 2));
    }

    private static void promise34Pour() {
        BookBoards x = new BookBoards();
        Due.all(BAD, x.pour(-1, 0), x.pour(4, 0), x.pour(0, -1), x.pour(0, 8), x.pour(LEAST, 0), x.pour(0, GREATEST));
        Due.is(NOTHING, x.pour(0, 0));
        x.sheet(0, 0, 0);
        Due.row(Due.of(0, 0), x.pour(0, 0), x.count(0));
        Due.fill(x, 0, 0, 101, 2599, 9999, 100, 2010);
        Due.row(Due.of(3, 3), x.pour(0, 7), x.count(0));
        Due.row(Due.of(1, 1, 7, 0), x.bookTold(0, 0), x.bookTold(0, 1), x.bookTold(0, 2), x.bookTold(0, 3));
        Due.row(Due.of(25, 99, 7, 99), x.bookTold(1, 0), x.bookTold(1, 1), x.bookTold(2, 2), x.bookTold(2, 0));
        BookBoards y = new BookBoards();
        Due.fill(y, 0, 0, 9901, 9999, 5050, 199);
        Due.is(4, y.pour(0, 0));
        Due.row(Due.of(99, 1, 99, 99), y.bookTold(0, 0), y.bookTold(0, 1), y.bookTold(1, 0), y.bookTold(1, 1));
        Due.row(Due.of(50, 50, 1, 99), y.bookTold(2, 0), y.bookTold(2, 1), y.bookTold(3, 0), y.bookTold(3, 1));
        Due.fill(x, 1, 1, 2010, NONE, 2010);
        Due.row(Due.of(1, 4, 0), x.pour(1, 0), x.count(0), x.bookTold(3, 2));
        Due.fill(x, 1, 1, 2010, 2011, 99999);
        Due.is(2, x.pour(1, 1));
        Due.fill(x, 1, 1, 2010, -2010);
        Due.is(1, x.pour(1, 1));
        Due.fill(x, 1, 1, NONE, 2010);
        Due.row(Due.of(0, 7), x.pour(1, 1), x.count(0));
        x.deal(15);
        Due.fill(x, 2, 0, 2010, 2020, 2030);
        Due.row(Due.of(FULL, 22), x.pour(2, 1), x.count(0));
        Due.row(Due.of(BAD, BAD, NOTHING), x.pour(2, 8), x.pour(4, 1), x.pour(3, 1));
        Due.fill(x, 2, 0, 2010, 2020);
        Due.row(Due.of(2, 24, 20), x.pour(2, 1), x.count(0), x.bookTold(23, 1));
        Due.row(Due.of(FULL, 0), x.pour(2, 1), x.pour(1, 1));
    }

    private static void promise35Copy() {
        BookBoards x = new BookBoards();
        Due.fill(x, 0, 0, 1, 2, 3, 4, 5);
        Due.fill(x, 1, 0, 11, 12, 13);
        Due.is(2, x.copy(0, 3, 1, 1, 2));
        Due.row(Due.of(11, 4, 5), Due.at(x, 1, 0), Due.at(x, 1, 1), Due.at(x, 1, 2));
        // Within one sheet, upwards and downwards, as they were.
        Due.is(4, x.copy(0, 0, 0, 1, 4));
        Due.row(Due.of(1, 1, 2, 3, 4), Due.at(x, 0, 0), Due.at(x, 0, 1), Due.at(x, 0, 2), Due.at(x, 0, 3), Due.at(x, 0,
                4));
        Due.is(3, x.copy(0, 2, 0, 0, 3));
        Due.row(Due.of(2, 3, 4, 3, 4), Due.at(x, 0, 0), Due.at(x, 0, 1), Due.at(x, 0, 2), Due.at(x, 0, 3), Due.at(x, 0,
                4));
        Due.row(Due.of(5, 0, 0), x.copy(0, 0, 0, 0, 5), x.copy(0, 0, 1, 0, 0), x.copy(0, 5, 1, 3, 0));
        Due.fill(x, 2, 1, 7, NONE, 99999);
        x.sheet(3, 1, 24);
        Due.is(3, x.copy(2, 0, 3, 21, 3));
        Due.row(Due.of(7, KIND, 99999, 0), Due.at(x, 3, 21), Due.at(x, 3, 22), Due.at(x, 3, 23), Due.at(x, 3, 20));
    }

    private static void promise35CopyWrong() {
        BookBoards x = new BookBoards();
        Due.fill(x, 0, 0, 1, 2, 3, 4, 5);
        Due.fill(x, 1, 0, 11, 12, 13);
        x.sheet(2, 1, 3);
        Due.all(BAD, x.copy(-1, 0, 0, 0, 1), x.copy(4, 0, 0, 0, 1), x.copy(0, 0, -1, 0, 1), x.copy(0, 0, 4, 0, 1),
                x.copy(3, 0, 4, 0, 1), x.copy(LEAST, 0, 3, 0, 1), x.copy(0, 0, GREATEST, 0, 1));
        Due.all(NOTHING, x.copy(3, 0, 0, 0, 1), x.copy(0, 0, 3, 0, 1), x.copy(3, 0, 3, 0, 1), x.copy(3, 0, 2, 9, 1));
        Due.all(KIND, x.copy(0, 0, 2, 0, 1), x.copy(2, 0, 0, 0, 1), x.copy(2, 9, 0, 9, 9), x.copy(2, 0, 0, 0, 0));
        Due.all(INDEX, x.copy(0, 0, 1, 0, 4), x.copy(1, 0, 0, 0, 4), x.copy(0, 4, 1, 0, 2), x.copy(0, 0, 1, 2, 2),
                x.copy(0, -1, 1, 0, 1), x.copy(0, 0, 1, -1, 1), x.copy(0, 6, 1, 0, 0), x.copy(0, 0, 1, 4, 0),
                x.copy(0, 0, 1, 0, -1), x.copy(0, 1, 1, 1, GREATEST), x.copy(0, GREATEST, 1, 0, 1),
                x.copy(0, 0, 1, GREATEST, GREATEST), x.copy(0, LEAST, 1, 0, 1), x.copy(0, 0, 1, 0, LEAST));
        Due.row(Due.of(11, 12, 13, 1, 5), Due.at(x, 1, 0), Due.at(x, 1, 1), Due.at(x, 1, 2), Due.at(x, 0, 0), Due.at(x,
                0, 4));
    }

    private static void promise36Lay() {
        BookBoards x = new BookBoards();
        x.book(2010, 0);
        x.book(2010, 0);
        x.board(4, 1, 50);
        x.sheet(0, 0, 2);
        Due.row(Due.of(0, 1, 2, 3, 0), x.lay(0, 1, 0), x.lay(0, 2, 0), x.lay(0, 3, LEAST), x.lay(0, 0, LEAST),
                x.lay(0, 0, 5));
        Due.all(BAD, x.lay(-1, 0, 0), x.lay(5, 0, 0), x.lay(0, -1, 0), x.lay(0, 4, 0), x.lay(0, 1, 1),
                x.lay(0, 1, -1), x.lay(0, 2, 4), x.lay(0, 2, -1), x.lay(LEAST, 0, 0), x.lay(0, GREATEST, 0),
                x.lay(0, 1, GREATEST), x.lay(0, 2, LEAST));
        Due.all(NOTHING, x.lay(0, 2, 1), x.lay(4, 2, 3));
        Due.is(0, x.lay(0, 3, 9));
        Due.all(BAD, x.lay(0, 1, 1), x.lay(0, 2, 4));
        Due.row(Due.of(NOTHING, 2), x.lay(0, 2, 1), x.rest(0, 7));
        // What is laid stays as it was then.
        x.lay(1, 1, 0);
        x.lay(2, 2, 0);
        x.lay(3, 3, 17);
        x.turns(0, 0);
        x.mark(0, 1, 5);
        Due.row(Due.of(4, 4, 0, 2), x.ask(1, 4), x.ask(1, 0), x.item(2, 1), x.rest(3, 5));
        x.drop(0);
        x.sheet(0, -1, 0);
        Due.row(Due.of(4, 0, INDEX), x.ask(1, 4), x.item(2, 1), x.item(2, 2));
        Due.is(0, x.lay(4, 3, 1));
        x.sheet(1, 1, 3);
        x.mark(1, 0, NONE);
        Due.is(3, x.lay(4, 2, 1));
        x.mark(1, 0, 5);
        Due.row(Due.of(KIND, 0, 2), x.item(4, 0), x.item(4, 1), x.lay(4, 2, 1));
        Due.is(5, x.item(4, 0));
    }

    private static void promise37Ask() {
        BookBoards x = new BookBoards();
        Due.all(NOTHING, x.ask(0, 0), x.ask(4, 5));
        Due.all(BAD, x.ask(-1, 0), x.ask(5, 0), x.ask(0, -1), x.ask(0, 6), x.ask(LEAST, 0), x.ask(0, GREATEST));
        x.book(2010, 0);
        x.book(2010, 0);
        int[] above = {-1, 0, 0, 1, 2, 0};
        int[] worth = {2, 9, 2, 12, 4, 6};
        for (int kind = 0; kind < 6; kind++) {
            x.board(kind, 1, 7);
            x.lay(0, 1, kind);
            for (int as = 0; as < 6; as++) {
                boolean is = kind == as || as == 0 || above[kind] == as;
                Due.is(is ? worth[kind] : KIND, x.ask(0, as));
            }
        }
        x.lay(1, 3, 5);
        x.sheet(0, 0, 1);
        x.lay(2, 2, 0);
        Due.all(KIND, x.ask(1, 0), x.ask(2, 0));
        Due.all(BAD, x.ask(1, 6), x.ask(2, -1), x.ask(3, 6));
        // A board in a slot is not touched by going back to an image with fewer books.
        BookBoards y = new BookBoards();
        y.keep();
        y.book(2010, 0);
        y.book(2010, 0);
        y.book(2010, 0);
        y.board(3, 2, 4);
        y.lay(0, 1, 0);
        y.back();
        Due.row(Due.of(10, 10, KIND), y.ask(0, 0), y.ask(0, 3), y.ask(0, 2));
    }

    private static void promise38Item() {
        BookBoards x = new BookBoards();
        Due.all(NOTHING, x.item(0, 0), x.item(4, -1));
        Due.all(BAD, x.item(-1, 0), x.item(5, 0), x.item(LEAST, 0), x.item(GREATEST, 0));
        Due.fill(x, 0, 0, -5, 7);
        Due.fill(x, 1, 1, -99999, NONE);
        x.lay(0, 2, 0);
        x.lay(1, 2, 1);
        x.lay(2, 3, 6);
        x.book(2010, 0);
        x.board(0, 0, 0);
        x.lay(3, 1, 0);
        Due.row(Due.of(-5, 7, INDEX, INDEX), x.item(0, 0), x.item(0, 1), x.item(0, 2), x.item(0, -1));
        Due.row(Due.of(-99999, KIND, INDEX), x.item(1, 0), x.item(1, 1), x.item(1, 2));
        Due.all(KIND, x.item(2, 0), x.item(2, 99), x.item(3, 0), x.item(3, -1));
        Due.all(INDEX, x.item(1, LEAST), x.item(1, GREATEST));
    }

    private static void promise39Rest() {
        BookBoards x = new BookBoards();
        Due.all(NOTHING, x.rest(0, 5), x.rest(4, 0));
        Due.all(BAD, x.rest(-1, 5), x.rest(5, 0), x.rest(LEAST, 1), x.rest(GREATEST, 1));
        x.sheet(0, 0, 1);
        x.lay(0, 2, 0);
        x.book(2010, 0);
        x.board(0, 0, 0);
        x.lay(1, 1, 0);
        Due.all(KIND, x.rest(0, 5), x.rest(0, 0), x.rest(1, 1));
        x.lay(2, 3, 17);
        Due.row(Due.of(2, 2, 17, 0, NO), x.rest(2, 5), x.rest(2, -5), x.rest(2, 18), x.rest(2, 1), x.rest(2, 0));
        x.lay(2, 3, -17);
        Due.row(Due.of(-2, -2, -17, 0), x.rest(2, 5), x.rest(2, -5), x.rest(2, LEAST), x.rest(2, -1));
        x.lay(2, 3, LEAST);
        Due.row(Due.of(0, 0, -8, NO), x.rest(2, -1), x.rest(2, LEAST), x.rest(2, 10), x.rest(2, 0));
        x.lay(2, 3, 0);
        Due.row(Due.of(0, NO), x.rest(2, 9), x.rest(2, 0));
    }
}
