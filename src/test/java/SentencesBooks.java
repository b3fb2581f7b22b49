import java.lang.reflect.Method;
import java.lang.reflect.Modifier;
import java.util.Arrays;
import java.util.stream.Collectors;

/** The head and the face of the document, and promises 1 to 7: a new object, book, bookTold, tie, deal, seed, set. */
final class SentencesBooks {
    private static final int BAD = Due.BAD, NO = Due.NO, FULL = Due.FULL, NONE = Due.NONE, NOTHING = Due.NOTHING;
    private static final int LEAST = Integer.MIN_VALUE, GREATEST = Integer.MAX_VALUE;

    private SentencesBooks() {
    }

    static void all() {
        whatItIs();
        calls512();
        constants();
        face();
        newObject();
        newObjectsByThemselves();
        bookBehindAll();
        bookRefused();
        bookTold();
        bookToldRefused();
        tie();
        tieRefused();
        deal();
        dealRoom();
        dealRefused();
        seed();
        set();
        setRefused();
    }

    private static void whatItIs() {
        Doc.saysBeside("Head",
                "Shelves at all heights: books that stand in order, by what they are about and not by how "
                + "tall, tied to the next one or not; boards of kinds under one another, run, deep, apart, lying, told; "
                + "the least height of boards for all of them, exactly, by any heights or by few told ones; fewest "
                + "cases, which tall books to let stand apart, what a wall takes that is there, what one inch more is "
                + "worth, who must move when one comes, where years of growing make a board too full, by laws in texts; "
                + "all told in rows that can be checked, kept and gone on from.");
    }

    private static void calls512() {
        Doc.says("Head",
                "An object is used for at most 512 calls after it has been made; what later calls answer is free.");
        BookBoards x = new BookBoards();
        for (int i = 0; i < 511; i++) {
            Due.is(i == 0 ? 1 : i - 1, x.seed(i));
        }
        Due.is(510, x.count(9));
        // Texts are what a call makes most of: as many as 512 calls can tell.
        BookBoards y = new BookBoards();
        y.keep();
        for (int i = 0; i < 170; i++) {
            Twins.twelve(y, "cost h*2+n+l");
            Due.row(Due.of(0, 0), y.text(), y.back());
        }
        // Free, but nothing is thrown.
        for (int i = 0; i < 2000; i++) {
            x.tell(i);
            x.book(2010, 0);
            x.feed(i, i, i);
        }
    }

    private static void constants() {
        Doc.says("Face", "public static final int BAD = -1000000001, NO = -1000000002, FULL = -1000000003, NONE = "
                + "-1000000005, NOTHING = -1000000011, KIND = -1000000012, INDEX = -1000000013, SIZE = -1000000014;");
        Due.row(Due.of(-1000000001, -1000000002, -1000000003, -1000000005, -1000000011, -1000000012, -1000000013,
                -1000000014), BookBoards.BAD, BookBoards.NO, BookBoards.FULL, BookBoards.NONE, BookBoards.NOTHING,
                BookBoards.KIND, BookBoards.INDEX, BookBoards.SIZE);
    }

    private static final String[] CALLS = {"book(int size, int part)", "bookTold(int book, int what)",
        "tie(int book, boolean is)", "deal(int n)", "seed(int v)", "set(int what, int v)",
        "board(int kind, int books, int h)", "told(int board, int what)", "as(int board, int kind)",
        "turns(int board, int kind)", "drop(int board)", "judge(int what)", "setting(int what)",
        "line(int line, int what)", "allow(int height)", "clear()", "cases(int what)", "few(int k, int what)",
        "apart(int t)", "edge()", "feed(int a, int b, int c)", "trim(int n)", "text()",
        "textTold(int text, int what)", "why(int key)", "fullBy()", "most(int n, int what)", "wall(int m, int h)",
        "inch(int v)", "shift(int place, int size)", "sheet(int sheet, int sort, int n)",
        "mark(int sheet, int place, int v)", "pour(int sheet, int part)",
        "copy(int from, int place, int to, int at, int many)", "lay(int slot, int thing, int k)",
        "ask(int slot, int kind)", "item(int slot, int place)", "rest(int slot, int n)", "tell(int v)", "check(int n)",
        "keep()", "back()", "count(int what)"};

    private static void face() {
        Doc.says("Face", "public final class BookBoards {");
        Due.is(Modifier.PUBLIC | Modifier.FINAL, BookBoards.class.getModifiers());
        Doc.says("Face", "public BookBoards();");
        Due.is(1, BookBoards.class.getConstructors().length);
        Due.is(0, BookBoards.class.getConstructors()[0].getParameterCount());
        for (String call : CALLS) {
            Doc.says("Face", "public int " + call + ";");
            String types = call.replaceAll(" \\w+(?=[,)])", "").replace(" ", "");
            boolean is = false;
            for (Method m : BookBoards.class.getMethods()) {
                String of = Arrays.stream(m.getParameterTypes()).map(Class::getName).collect(Collectors.joining(","));
                is |= types.equals(m.getName() + "(" + of + ")") && m.getReturnType() == int.class
                        && m.getModifiers() == Modifier.PUBLIC;
            }
            Due.isTrue(is, "there is no such call");
        }
        Due.is(CALLS.length, BookBoards.class.getMethods().length - Object.class.getMethods().length);
    }

    private static void newObject() {
        Doc.says("Promise 1", "As told; no BOOKS.");
        BookBoards x = new BookBoards();
        for (int what = 0; what <= 8; what++) {
            Due.is(0, x.count(what));
        }
        Due.is(1, x.count(9));
        Due.row(Due.of(BAD, BAD, BAD), x.bookTold(0, 0), x.told(0, 0), x.textTold(0, 0));
        Due.row(Due.of(0, 0, NONE, 0, 0), x.setting(-2), x.setting(-1), x.setting(0), x.cases(0), x.cases(1));
        Due.row(Due.of(NONE, NONE, NONE), x.why(0), x.why(1), x.why(2));
        for (int sheet = 0; sheet <= 3; sheet++) {
            Due.is(NOTHING, x.mark(sheet, 0, 0));
        }
        for (int slot = 0; slot <= 4; slot++) {
            Due.is(NOTHING, x.rest(slot, 1));
        }
        Due.row(Due.of(NO, NO, -100), x.back(), x.check(1), x.text());
        Due.row(Due.of(100, 2, 336), x.set(0, 100), x.set(1, 2), x.set(2, 336));
    }

    private static void newObjectsByThemselves() {
        Doc.says("Promise 1", "As told; no BOOKS.");
        BookBoards x = Twins.made(Twins.State.FULL);
        BookBoards y = new BookBoards();
        Due.row(Due.of(0, 0, 0, 0, 0, 0, 0, 0, 0, 1), y.count(0), y.count(1), y.count(2), y.count(3), y.count(4),
                y.count(5), y.count(6), y.count(7), y.count(8), y.count(9));
        Due.row(Due.of(NO, NOTHING, NOTHING), y.back(), y.mark(0, 0, 0), y.rest(4, 1));
        y.book(101, 0);
        y.keep();
        Due.row(Due.of(24, 2), x.count(0), x.back());
    }

    private static void bookBehindAll() {
        Doc.says("Promise 2", "One more BOOK, behind all (size: 100 times HEIGHT, and THICKNESS): its number.");
        BookBoards x = new BookBoards();
        Due.row(Due.of(0, 1, 2, 3), x.book(101, 0), x.book(9999, 7), x.book(199, 1), x.book(9901, 6));
        Due.row(Due.of(1, 1, 0), x.bookTold(0, 0), x.bookTold(0, 1), x.bookTold(0, 2));
        Due.row(Due.of(99, 99, 7), x.bookTold(1, 0), x.bookTold(1, 1), x.bookTold(1, 2));
        Due.row(Due.of(1, 99, 1), x.bookTold(2, 0), x.bookTold(2, 1), x.bookTold(2, 2));
        Due.row(Due.of(99, 1, 6), x.bookTold(3, 0), x.bookTold(3, 1), x.bookTold(3, 2));
        // All sizes that there are, and those between them that are none.
        for (int from = 0; from <= 10200; from += 200) {
            BookBoards y = new BookBoards();
            y.keep();
            for (int size = from; size < from + 200; size++) {
                boolean is = size / 100 >= 1 && size / 100 <= 99 && size % 100 != 0;
                Due.isTrue(y.book(size, 0) == (is ? 0 : BAD), "a book of size " + size);
                y.back();
            }
        }
    }

    private static void bookRefused() {
        Doc.says("Promise 2", "BAD; FULL.");
        Twins.same(BAD, Twins.State.SOME, x -> x.book(100, 0), x -> x.book(0, 0), x -> x.book(-101, 0),
                x -> x.book(10000, 0), x -> x.book(10001, 0), x -> x.book(9900, 0), x -> x.book(LEAST, 0),
                x -> x.book(GREATEST, 0), x -> x.book(101, -1), x -> x.book(101, 8), x -> x.book(101, LEAST),
                x -> x.book(101, GREATEST), x -> x.book(-9999, 0), x -> x.book(100, 8));
        Twins.same(FULL, Twins.State.FULL, x -> x.book(101, 0), x -> x.book(9999, 7));
        Twins.same(BAD, Twins.State.FULL, x -> x.book(100, 0), x -> x.book(101, 8), x -> x.book(10000, -1));
        // 24 come; one less than full is not full.
        BookBoards x = new BookBoards();
        x.deal(23);
        Due.row(Due.of(23, FULL, BAD, 24), x.book(101, 0), x.book(101, 0), x.book(100, 0), x.count(0));
    }

    private static void bookTold() {
        Doc.says("Promise 3", "Of a BOOK: what 0 HEIGHT, 1 THICKNESS, 2 PART, 3 whether TIED (1, 0), 4 its LINE in THE "
                + "SETTING (NONE: there is none).");
        BookBoards x = new BookBoards();
        x.book(4060, 5);
        x.book(3061, 6);
        x.tie(0, true);
        Due.row(Due.of(40, 60, 5, 1, NONE), x.bookTold(0, 0), x.bookTold(0, 1), x.bookTold(0, 2), x.bookTold(0, 3),
                x.bookTold(0, 4));
        x.tie(0, false);
        Due.row(Due.of(0, 0), x.bookTold(0, 3), x.bookTold(0, 4));
        Due.row(Due.of(30, 61, 6, 0, 1), x.bookTold(1, 0), x.bookTold(1, 1), x.bookTold(1, 2), x.bookTold(1, 3),
                x.bookTold(1, 4));
        x.set(0, 121);
        Due.row(Due.of(0, 0), x.bookTold(0, 4), x.bookTold(1, 4));
        x.allow(39);
        Due.row(Due.of(NONE, NONE, 40), x.bookTold(0, 4), x.bookTold(1, 4), x.bookTold(0, 0));
        // The last one of 24, on the last line of 24.
        BookBoards y = new BookBoards();
        for (int i = 0; i < 24; i++) {
            y.book(2060, i % 8);
        }
        y.tie(23, true);
        Due.row(Due.of(20, 60, 7, 1, 23), y.bookTold(23, 0), y.bookTold(23, 1), y.bookTold(23, 2), y.bookTold(23, 3),
                y.bookTold(23, 4));
    }

    private static void bookToldRefused() {
        Doc.says("Promise 3", "BAD.");
        for (int what = -1; what <= 5; what++) {
            int of = what;
            Twins.same(BAD, Twins.State.SOME, x -> x.bookTold(5, of), x -> x.bookTold(-1, of),
                    x -> x.bookTold(LEAST, of), x -> x.bookTold(GREATEST, of));
            Twins.same(BAD, Twins.State.BARE, x -> x.bookTold(0, of));
        }
        Twins.same(BAD, Twins.State.SOME, x -> x.bookTold(0, -1), x -> x.bookTold(0, 5), x -> x.bookTold(4, LEAST),
                x -> x.bookTold(4, GREATEST));
        Twins.same(BAD, Twins.State.FULL, x -> x.bookTold(24, 0), x -> x.bookTold(24, 4));
        Twins.same(25, Twins.State.SOME, x -> x.bookTold(4, 0));
    }

    private static void tie() {
        Doc.says("Promise 4", "A BOOK is TIED, or not: 1 if that is new, else 0.");
        BookBoards x = new BookBoards();
        x.deal(24);
        Due.row(Due.of(0, 1, 0, 1, 0), x.tie(0, false), x.tie(0, true), x.tie(0, true), x.tie(0, false),
                x.tie(0, false));
        Due.row(Due.of(0, 1, 0, 1, 0), x.tie(23, false), x.tie(23, true), x.tie(23, true), x.tie(23, false),
                x.tie(23, false));
        Due.row(Due.of(1, 0, 1, 0), x.tie(11, true), x.bookTold(10, 3), x.bookTold(11, 3), x.bookTold(12, 3));
        Due.is(1, x.count(5));
    }

    private static void tieRefused() {
        Doc.says("Promise 4", "BAD.");
        Twins.same(BAD, Twins.State.SOME, x -> x.tie(5, true), x -> x.tie(5, false), x -> x.tie(-1, true),
                x -> x.tie(LEAST, true), x -> x.tie(GREATEST, false));
        Twins.same(BAD, Twins.State.BARE, x -> x.tie(0, true), x -> x.tie(0, false));
        Twins.same(BAD, Twins.State.FULL, x -> x.tie(24, true), x -> x.tie(24, false));
    }

    private static void deal() {
        Doc.says("Promise 5", "BOOKS that are drawn come, n (1 .. 24)");
        BookBoards x = new BookBoards();
        x.seed(99);
        Due.row(Due.of(1, 1), x.deal(1), x.count(0));
        BookBoards y = new BookBoards();
        y.seed(99);
        Due.row(Due.of(24, 24, 0), y.deal(24), y.count(0), y.count(5));
        // They are the same by one and by many, and z goes on behind the last draw.
        Due.is(23, x.deal(23));
        for (int i = 0; i < 24; i++) {
            Due.row(Due.of(y.bookTold(i, 0), y.bookTold(i, 1), y.bookTold(i, 2)), x.bookTold(i, 0), x.bookTold(i, 1),
                    x.bookTold(i, 2));
        }
        Due.is(y.count(9), x.count(9));
    }

    private static void dealRoom() {
        Doc.says("Promise 5", "or as many as there is room for: how many.");
        BookBoards x = new BookBoards();
        x.book(101, 0);
        x.book(101, 0);
        Due.row(Due.of(22, 24), x.deal(24), x.count(0));
        // No room: none comes, and nothing is drawn.
        int z = x.count(9);
        Due.row(Due.of(0, 0, z, 24), x.deal(1), x.deal(24), x.count(9), x.count(0));
        BookBoards y = new BookBoards();
        y.deal(20);
        Due.row(Due.of(3, 1, 0), y.deal(3), y.deal(2), y.deal(1));
        // What does not come is not drawn: 22 books are 66 draws.
        int drawn = 1;
        for (int i = 0; i < 66; i++) {
            drawn = drawn * 1103515245 + 12345;
        }
        Due.is(drawn, z);
    }

    private static void dealRefused() {
        Doc.says("Promise 5", "BAD.");
        Twins.same(BAD, Twins.State.SOME, x -> x.deal(0), x -> x.deal(-1), x -> x.deal(25), x -> x.deal(LEAST),
                x -> x.deal(GREATEST));
        Twins.same(BAD, Twins.State.FULL, x -> x.deal(0), x -> x.deal(25));
        Twins.same(0, Twins.State.FULL, x -> x.deal(1), x -> x.deal(24));
    }

    private static void seed() {
        Doc.says("Promise 6", "z becomes v: what it was.");
        BookBoards x = new BookBoards();
        Due.row(Due.of(1, 0, -1, LEAST, GREATEST), x.seed(0), x.seed(-1), x.seed(LEAST), x.seed(GREATEST), x.seed(7));
        Due.row(Due.of(7, 7), x.count(9), x.seed(7));
        // An answer that looks like a refusal is none.
        Due.row(Due.of(7, BAD, BAD, NONE), x.seed(BAD), x.count(9), x.seed(NONE), x.count(9));
    }

    private static void set() {
        Doc.says("Promise 7", "WIDTH (what 0), PLANK (1), CASE (2) becomes v: what it was.");
        BookBoards x = new BookBoards();
        Due.row(Due.of(100, 1, 999, 7), x.set(0, 1), x.set(0, 999), x.set(0, 7), x.set(0, 7));
        Due.row(Due.of(2, 0, 9, 7), x.set(1, 0), x.set(1, 9), x.set(1, 7), x.set(1, 7));
        Due.row(Due.of(336, 1, 999, 7), x.set(2, 1), x.set(2, 999), x.set(2, 7), x.set(2, 7));
        // Each counts where it should.
        BookBoards y = new BookBoards();
        y.book(2010, 0);
        y.set(0, 9);
        Due.is(NONE, y.setting(-2));
        y.set(0, 10);
        y.set(1, 5);
        Due.is(25, y.setting(-2));
        y.set(2, 24);
        Due.row(Due.of(25, NONE), y.setting(-2), y.cases(0));
        y.set(2, 25);
        Due.row(Due.of(25, 1), y.setting(-2), y.cases(0));
    }

    private static void setRefused() {
        Doc.says("Promise 7", "BAD.");
        Twins.same(BAD, Twins.State.SOME, x -> x.set(0, 0), x -> x.set(0, 1000), x -> x.set(0, -1), x -> x.set(1, -1),
                x -> x.set(1, 10), x -> x.set(2, 0), x -> x.set(2, 1000), x -> x.set(-1, 1), x -> x.set(3, 1),
                x -> x.set(LEAST, 1), x -> x.set(GREATEST, 1), x -> x.set(0, LEAST), x -> x.set(0, GREATEST),
                x -> x.set(1, LEAST), x -> x.set(1, GREATEST), x -> x.set(2, LEAST), x -> x.set(2, GREATEST));
    }
}
