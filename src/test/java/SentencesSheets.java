/** Promises 32 to 39: sheet, mark, pour, copy, lay, ask, item, rest. */
final class SentencesSheets {
    private static final int BAD = Due.BAD, NO = Due.NO, FULL = Due.FULL, NONE = Due.NONE, NOTHING = Due.NOTHING,
            KIND = Due.KIND, INDEX = Due.INDEX, SIZE = Due.SIZE;
    private static final int LEAST = Integer.MIN_VALUE, GREATEST = Integer.MAX_VALUE;

    private SentencesSheets() {
    }

    static void all() {
        sheet();
        sheetMissing();
        sheetRefused();
        markShorts();
        markFloats();
        markRefused();
        pour();
        pourUpTo();
        pourRefused();
        copy();
        copyWithin();
        copyRefused();
        copyPlaces();
        lay();
        layRefused();
        ask();
        askRefused();
        item();
        itemRefused();
        rest();
        restRefused();
    }

    private static void sheet() {
        Doc.says("Promise 32", "A SHEET becomes a row of n places of a sort, all 0");
        BookBoards x = new BookBoards();
        Due.row(Due.of(0, 1, 23, 24), x.sheet(0, 0, 0), x.sheet(1, 0, 1), x.sheet(2, 1, 23), x.sheet(3, 1, 24));
        Due.row(Due.of(INDEX, 0, INDEX, 0, INDEX, 0, INDEX), Due.at(x, 0, 0), Due.at(x, 1, 0), Due.at(x, 1, 1),
                Due.at(x, 2, 22),
                Due.at(x, 2, 23), Due.at(x, 3, 23), Due.at(x, 3, 24));
        // All 0 once more, where numbers stood: of the same sort, of the other sort, shorter and longer.
        for (int place = 0; place < 24; place++) {
            x.mark(3, place, place == 7 ? NONE : 1000 + place);
        }
        x.sheet(3, 1, 2);
        Due.row(Due.of(0, 0, INDEX), Due.at(x, 3, 0), Due.at(x, 3, 1), Due.at(x, 3, 2));
        x.sheet(3, 0, 24);
        for (int place = 0; place < 24; place++) {
            Due.is(0, Due.at(x, 3, place));
        }
        Due.row(Due.of(KIND, 1, -1), x.mark(3, 0, NONE), x.mark(3, 0, 65535), Due.at(x, 3, 0));
    }

    private static void sheetMissing() {
        Doc.says("Promise 32", "(sort -1: MISSING, n any): n (0).");
        BookBoards x = new BookBoards();
        for (int n : new int[] {0, 1, 24, 25, -1, LEAST, GREATEST}) {
            x.sheet(0, 0, 3);
            Due.row(Due.of(0, NOTHING, NOTHING), x.sheet(0, -1, n), x.mark(0, 0, 0), x.lay(0, 2, 0));
            Due.is(0, x.sheet(0, -1, n));
        }
        x.sheet(0, 1, 1);
        Due.row(Due.of(0, INDEX), Due.at(x, 0, 0), Due.at(x, 0, 1));
    }

    private static void sheetRefused() {
        Doc.says("Promise 32", "BAD: sheet, sort, n above 24; SIZE.");
        Twins.same(BAD, Twins.State.SOME, x -> x.sheet(-1, 0, 1), x -> x.sheet(4, 0, 1), x -> x.sheet(LEAST, 0, 1),
                x -> x.sheet(GREATEST, 0, 1), x -> x.sheet(0, -2, 1), x -> x.sheet(0, 2, 1), x -> x.sheet(0, LEAST, 1),
                x -> x.sheet(0, GREATEST, 1), x -> x.sheet(0, 0, 25), x -> x.sheet(0, 1, 25),
                x -> x.sheet(0, 0, GREATEST), x -> x.sheet(-1, -1, 0), x -> x.sheet(4, -1, 0));
        Twins.same(SIZE, Twins.State.SOME, x -> x.sheet(0, 0, -1), x -> x.sheet(0, 1, -1), x -> x.sheet(3, 0, -25),
                x -> x.sheet(0, 0, LEAST));
        // BAD stands first.
        Twins.same(BAD, Twins.State.SOME, x -> x.sheet(-1, 0, -1), x -> x.sheet(4, 0, -1), x -> x.sheet(0, 2, -1),
                x -> x.sheet(0, -2, -1));
    }

    private static void markShorts() {
        Doc.says("Promise 33", "A place of a SHEET becomes v (of shorts its lowest 16 bits;");
        BookBoards x = new BookBoards();
        x.sheet(0, 0, 1);
        int[] marked = {0, 1, -1, 32767, 32768, -32768, -32769, 65535, 65536, 65537, 99999, 100000, LEAST, GREATEST,
                BAD,
            0x12345678, 0x1234F678};
        int[] due = {0, 1, -1, 32767, -32768, -32768, 32767, -1, 0, 1, 99999 - 131072, 100000 - 131072, 0, -1,
            13823, 0x5678, 0xF678 - 65536};
        for (int i = 0; i < marked.length; i++) {
            Due.row(Due.of(1, due[i]), x.mark(0, 0, marked[i]), Due.at(x, 0, 0));
        }
    }

    private static void markFloats() {
        Doc.says("Promise 33", "of floats v, -99999 .. 99999; NONE: NO NUMBER): 1.");
        BookBoards x = new BookBoards();
        x.sheet(0, 1, 24);
        for (int v : new int[] {0, 1, -1, 99998, 99999, -99998, -99999, 32768, 65536}) {
            Due.row(Due.of(1, v), x.mark(0, 23, v), Due.at(x, 0, 23));
        }
        Due.row(Due.of(1, KIND, 1, 7), x.mark(0, 23, NONE), Due.at(x, 0, 23), x.mark(0, 23, 7), Due.at(x, 0, 23));
        Due.row(Due.of(0, 0), Due.at(x, 0, 0), Due.at(x, 0, 22));
    }

    private static void markRefused() {
        Doc.says("Promise 33", "BAD: sheet; NOTHING; INDEX; KIND: NONE in a row of shorts; BAD: v of floats.");
        Twins.same(BAD, Twins.State.SOME, x -> x.mark(-1, 0, 0), x -> x.mark(4, 0, 0), x -> x.mark(LEAST, 0, 0),
                x -> x.mark(GREATEST, 0, 0), x -> x.mark(4, 99, NONE), x -> x.mark(-1, 99, 100000));
        Twins.same(NOTHING, Twins.State.SOME, x -> x.mark(3, 0, 0), x -> x.mark(3, -1, NONE), x -> x.mark(3, 0, LEAST));
        Twins.same(INDEX, Twins.State.SOME, x -> x.mark(0, 4, 0), x -> x.mark(0, -1, 0), x -> x.mark(0, 4, NONE),
                x -> x.mark(1, 3, 0), x -> x.mark(1, -1, 0), x -> x.mark(1, 3, 100000), x -> x.mark(1, 3, NONE),
                x -> x.mark(2, 0, NONE), x -> x.mark(0, 24, 0), x -> x.mark(0, LEAST, 0), x -> x.mark(0, GREATEST, 0));
        Twins.same(INDEX, Twins.State.FULL, x -> x.mark(0, 24, 0), x -> x.mark(1, 24, 0));
        Twins.same(KIND, Twins.State.SOME, x -> x.mark(0, 0, NONE), x -> x.mark(0, 3, NONE));
        Twins.same(BAD, Twins.State.SOME, x -> x.mark(1, 0, 100000), x -> x.mark(1, 0, -100000),
                x -> x.mark(1, 1, LEAST), x -> x.mark(1, 2, GREATEST), x -> x.mark(1, 0, NONE - 1),
                x -> x.mark(1, 0, NONE + 1), x -> x.mark(1, 0, BAD));
    }

    private static void pour() {
        Doc.says("Promise 34", "BOOKS of a PART come from a SHEET, place by place from 0 on (size as of book()),");
        BookBoards x = new BookBoards();
        Due.fill(x, 0, 0, 101, 9999, 199, 9901);
        Due.fill(x, 1, 1, 2599, 2501);
        Due.row(Due.of(4, 2, 6), x.pour(0, 0), x.pour(1, 7), x.count(0));
        int[][] due = {{1, 1, 0}, {99, 99, 0}, {1, 99, 0}, {99, 1, 0}, {25, 99, 7}, {25, 1, 7}};
        for (int i = 0; i < 6; i++) {
            Due.row(Due.of(due[i][0], due[i][1], due[i][2], 0), x.bookTold(i, 0), x.bookTold(i, 1), x.bookTold(i, 2),
                    x.bookTold(i, 3));
        }
        // The sheet stays as it is.
        Due.row(Due.of(101, 9901, 2501), Due.at(x, 0, 0), Due.at(x, 0, 3), Due.at(x, 1, 1));
        // No place, no book; 24 places, 24 books.
        x.sheet(2, 0, 0);
        Due.row(Due.of(0, 6), x.pour(2, 0), x.count(0));
        BookBoards y = new BookBoards();
        int[] all = new int[24];
        java.util.Arrays.fill(all, 2010);
        Due.fill(y, 3, 1, all);
        Due.row(Due.of(24, 24), y.pour(3, 0), y.count(0));
    }

    private static void pourUpTo() {
        Doc.says("Promise 34", "up to the first that is NO NUMBER or no such size: how many came.");
        int[] none = {0, 1, 99, 100, 200, 9900, 10000, 10001, -1, -101, -2010, 32767, -32768};
        for (int v : none) {
            BookBoards x = new BookBoards();
            Due.fill(x, 0, 0, 2010, v, 2020);
            Due.fill(x, 1, 1, 2010, 2020, v, 2030);
            Due.fill(x, 2, 0, v, 2020);
            Due.row(Due.of(1, 2, 0, 3), x.pour(0, 0), x.pour(1, 0), x.pour(2, 0), x.count(0));
        }
        BookBoards x = new BookBoards();
        Due.fill(x, 0, 1, NONE, 2010);
        Due.fill(x, 1, 1, 2010, NONE, 2010);
        Due.fill(x, 2, 1, 2010, 99999, 2010);
        Due.fill(x, 3, 1, 2010, 2010, -99999);
        Due.row(Due.of(0, 1, 1, 2, 4), x.pour(0, 0), x.pour(1, 0), x.pour(2, 0), x.pour(3, 0), x.count(0));
    }

    private static void pourRefused() {
        Doc.says("Promise 34", "BAD: sheet, part; NOTHING; FULL: they have no room (none comes then).");
        Twins.same(BAD, Twins.State.SOME, x -> x.pour(-1, 0), x -> x.pour(4, 0), x -> x.pour(0, -1), x -> x.pour(0, 8),
                x -> x.pour(LEAST, 0), x -> x.pour(GREATEST, 0), x -> x.pour(0, LEAST), x -> x.pour(0, GREATEST),
                x -> x.pour(3, 8), x -> x.pour(3, -1));
        Twins.same(NOTHING, Twins.State.SOME, x -> x.pour(3, 0), x -> x.pour(3, 7));
        Twins.same(FULL, Twins.State.FULL, x -> x.pour(0, 0), x -> x.pour(1, 7));
        Twins.same(BAD, Twins.State.FULL, x -> x.pour(0, 8), x -> x.pour(4, 0));
        Twins.same(NOTHING, Twins.State.FULL, x -> x.pour(3, 0));
        Twins.same(0, Twins.State.FULL, x -> x.pour(2, 0));
        // Room for one less, and for just as many; what stands behind the last size needs no room.
        BookBoards x = new BookBoards();
        x.deal(22);
        Due.fill(x, 0, 0, 2010, 2011, 2012);
        Due.row(Due.of(FULL, 22), x.pour(0, 1), x.count(0));
        x.mark(0, 2, 0);
        Due.row(Due.of(2, 24, 11), x.pour(0, 1), x.count(0), x.bookTold(23, 1));
        Due.row(Due.of(FULL, 24), x.pour(0, 1), x.count(0));
        x.mark(0, 0, 0);
        Due.row(Due.of(0, 24), x.pour(0, 1), x.count(0));
    }

    private static void copy() {
        Doc.says("Promise 35", "So many places of a SHEET come to another one (or the same), as they were: many.");
        Doc.says("Promise 35", "(From a SHEET, its place, to a SHEET, its place.)");
        BookBoards x = new BookBoards();
        Due.fill(x, 0, 0, 1, 2, 3, 4, 5);
        Due.fill(x, 1, 0, 11, 12, 13);
        Due.row(Due.of(2, 11, 4, 5), x.copy(0, 3, 1, 1, 2), Due.at(x, 1, 0), Due.at(x, 1, 1), Due.at(x, 1, 2));
        Due.row(Due.of(1, 2, 3, 4, 5), Due.at(x, 0, 0), Due.at(x, 0, 1), Due.at(x, 0, 2), Due.at(x, 0, 3), Due.at(x, 0,
                4));
        // All of it, and none of it.
        Due.row(Due.of(3, 11, 4, 5, 4), x.copy(1, 0, 0, 0, 3), Due.at(x, 0, 0), Due.at(x, 0, 1), Due.at(x, 0, 2),
        Due.at(x, 0, 3));
        Due.row(Due.of(0, 0, 0, 0), x.copy(0, 0, 1, 0, 0), x.copy(0, 5, 1, 3, 0), x.copy(0, 5, 0, 5, 0),
                x.copy(1, 3, 0, 0, 0));
        Due.row(Due.of(11, 4, 5, 4, 5, 11, 4, 5), Due.at(x, 0, 0), Due.at(x, 0, 1), Due.at(x, 0, 2), Due.at(x, 0, 3),
                Due.at(x, 0, 4),
                Due.at(x, 1, 0), Due.at(x, 1, 1), Due.at(x, 1, 2));
        // Floats, one of them no number; rows of 24 places; a row without places.
        x.sheet(2, 1, 24);
        x.mark(2, 0, NONE);
        x.mark(2, 23, -99999);
        x.sheet(3, 1, 24);
        Due.row(Due.of(24, KIND, 0, -99999), x.copy(2, 0, 3, 0, 24), Due.at(x, 3, 0), Due.at(x, 3, 1), Due.at(x, 3,
                23));
        x.sheet(1, 0, 0);
        Due.row(Due.of(0, 0, 0), x.copy(1, 0, 1, 0, 0), x.copy(0, 0, 1, 0, 0), x.copy(1, 0, 0, 5, 0));
    }

    private static void copyWithin() {
        Doc.says("Promise 35", "(or the same), as they were: many.");
        BookBoards x = new BookBoards();
        Due.fill(x, 0, 0, 1, 2, 3, 4, 5);
        Due.row(Due.of(4, 1, 1, 2, 3, 4), x.copy(0, 0, 0, 1, 4), Due.at(x, 0, 0), Due.at(x, 0, 1), Due.at(x, 0, 2),
                Due.at(x, 0, 3),
                Due.at(x, 0, 4));
        Due.fill(x, 0, 0, 1, 2, 3, 4, 5);
        Due.row(Due.of(4, 2, 3, 4, 5, 5), x.copy(0, 1, 0, 0, 4), Due.at(x, 0, 0), Due.at(x, 0, 1), Due.at(x, 0, 2),
                Due.at(x, 0, 3),
                Due.at(x, 0, 4));
        Due.row(Due.of(5, 2, 5), x.copy(0, 0, 0, 0, 5), Due.at(x, 0, 0), Due.at(x, 0, 4));
    }

    private static void copyRefused() {
        Doc.says("Promise 35", "BAD; NOTHING; KIND: they are not of one sort; INDEX.");
        Twins.same(BAD, Twins.State.SOME, x -> x.copy(-1, 0, 0, 0, 1), x -> x.copy(4, 0, 0, 0, 1),
                x -> x.copy(0, 0, -1, 0, 1), x -> x.copy(0, 0, 4, 0, 1), x -> x.copy(LEAST, 0, 0, 0, 1),
                x -> x.copy(0, 0, GREATEST, 0, 1), x -> x.copy(3, 0, 4, 0, 1), x -> x.copy(4, 99, 3, 99, 99));
        Twins.same(NOTHING, Twins.State.SOME, x -> x.copy(3, 0, 0, 0, 1), x -> x.copy(0, 0, 3, 0, 1),
                x -> x.copy(3, 0, 3, 0, 0), x -> x.copy(3, 99, 1, 99, 99), x -> x.copy(0, 99, 3, -1, 0));
        Twins.same(KIND, Twins.State.SOME, x -> x.copy(0, 0, 1, 0, 1), x -> x.copy(1, 0, 0, 0, 1),
                x -> x.copy(0, 0, 1, 0, 0), x -> x.copy(1, 99, 2, 99, 99), x -> x.copy(0, -1, 1, 0, 1));
    }

    private static void copyPlaces() {
        Doc.says("Promise 35", "INDEX.");
        // Four shorts in sheet 0, none in sheet 2, three floats in sheet 1.
        Twins.same(INDEX, Twins.State.SOME, x -> x.copy(0, 0, 0, 0, 5), x -> x.copy(0, 1, 0, 0, 4),
                x -> x.copy(0, 0, 0, 1, 4), x -> x.copy(0, 4, 0, 0, 1), x -> x.copy(0, 0, 0, 4, 1),
                x -> x.copy(0, -1, 0, 0, 1), x -> x.copy(0, 0, 0, -1, 1), x -> x.copy(0, -1, 0, 0, 0),
                x -> x.copy(0, 0, 0, -1, 0), x -> x.copy(0, 5, 0, 0, 0), x -> x.copy(0, 0, 0, 5, 0),
                x -> x.copy(0, 0, 0, 0, -1), x -> x.copy(0, 2, 0, 2, -1), x -> x.copy(0, 0, 2, 0, 1),
                x -> x.copy(2, 0, 0, 0, 1), x -> x.copy(1, 0, 1, 0, 4), x -> x.copy(1, 2, 1, 0, 2));
        // Ints that would wrap around.
        Twins.same(INDEX, Twins.State.SOME, x -> x.copy(0, 1, 0, 0, GREATEST), x -> x.copy(0, GREATEST, 0, 0, 1),
                x -> x.copy(0, GREATEST, 0, GREATEST, GREATEST), x -> x.copy(0, 0, 0, GREATEST, 1),
                x -> x.copy(0, LEAST, 0, 0, 1), x -> x.copy(0, 0, 0, LEAST, 1), x -> x.copy(0, 0, 0, 0, LEAST),
                x -> x.copy(0, LEAST, 0, LEAST, LEAST), x -> x.copy(0, 1, 0, 1, LEAST));
        // Four of four, from the last place on one, behind it none.
        Twins.same(4, Twins.State.SOME, x -> x.copy(0, 0, 0, 0, 4));
        Twins.same(1, Twins.State.SOME, x -> x.copy(0, 3, 0, 3, 1));
        Twins.same(0, Twins.State.SOME, x -> x.copy(0, 4, 0, 4, 0), x -> x.copy(2, 0, 2, 0, 0));
    }

    private static void lay() {
        Doc.says("Promise 36",
                "A SLOT holds: thing 0 nothing, 1 BOARD k, 2 SHEET k, 3 the number k: what it held (0 .. 3).");
        BookBoards x = Twins.made(Twins.State.FULL);
        // From each thing to each.
        for (int from = 0; from <= 3; from++) {
            for (int to = 0; to <= 3; to++) {
                x.lay(0, from, 1);
                Due.row(Due.of(from, to), x.lay(0, to, 1), x.lay(0, to, 1));
            }
        }
        // The first and the last board, sheet, slot; any number.
        Due.row(Due.of(3, 1), x.lay(4, 1, 0), x.lay(4, 1, 11));
        Due.row(Due.of(98, 98, KIND), x.ask(4, 5), x.ask(4, 0), x.ask(4, 1));
        Due.row(Due.of(1, 2, 0), x.lay(4, 2, 0), x.lay(4, 2, 2), x.lay(3, 2, 1) - 3);
        Due.row(Due.of(2, 3, 3), x.lay(4, 3, LEAST), x.lay(4, 3, GREATEST), x.lay(4, 3, 0));
        Due.row(Due.of(0, NO), x.rest(4, 5), x.rest(4, 0));
        // Nothing, whatever k is.
        for (int k : new int[] {0, -1, 99, LEAST, GREATEST}) {
            x.lay(2, 3, 1);
            Due.row(Due.of(3, NOTHING, 0), x.lay(2, 0, k), x.rest(2, 1), x.lay(2, 0, k));
        }
    }

    private static void layRefused() {
        Doc.says("Promise 36", "BAD: slot, thing, k; NOTHING: that SHEET is MISSING.");
        Twins.same(BAD, Twins.State.SOME, x -> x.lay(-1, 3, 0), x -> x.lay(5, 3, 0), x -> x.lay(LEAST, 3, 0),
                x -> x.lay(GREATEST, 0, 0), x -> x.lay(0, -1, 0), x -> x.lay(0, 4, 0), x -> x.lay(0, LEAST, 0),
                x -> x.lay(0, GREATEST, 0), x -> x.lay(0, 1, 2), x -> x.lay(0, 1, -1), x -> x.lay(3, 1, LEAST),
                x -> x.lay(3, 1, GREATEST), x -> x.lay(0, 2, 4), x -> x.lay(0, 2, -1), x -> x.lay(3, 2, LEAST),
                x -> x.lay(3, 2, GREATEST), x -> x.lay(5, 2, 3), x -> x.lay(-1, 0, 0), x -> x.lay(1, 4, 0));
        Twins.same(BAD, Twins.State.BARE, x -> x.lay(0, 1, 0), x -> x.lay(0, 2, 4));
        Twins.same(BAD, Twins.State.FULL, x -> x.lay(0, 1, 12));
        Twins.same(NOTHING, Twins.State.SOME, x -> x.lay(0, 2, 3), x -> x.lay(1, 2, 3), x -> x.lay(2, 2, 3),
                x -> x.lay(3, 2, 3), x -> x.lay(4, 2, 3));
        Twins.same(NOTHING, Twins.State.BARE, x -> x.lay(0, 2, 0), x -> x.lay(4, 2, 3));
    }

    private static void ask() {
        Doc.says("Promise 37", "WORTH of the BOARD in a SLOT, taken for one of a KIND (0 .. 5).");
        BookBoards x = new BookBoards();
        x.book(2010, 0);
        x.book(2010, 0);
        // It is worth what its own kind says, whatever it is taken for.
        int[] worth = {2, 2 + 9, 2, 2 + 9 + 3, 4, 8};
        int[][] taken = {{0}, {0, 1}, {0, 2}, {0, 1, 3}, {0, 2, 4}, {0, 5}};
        for (int kind = 0; kind <= 5; kind++) {
            x.board(kind, 1, 9);
            x.lay(kind % 5, 1, kind);
            for (int as : taken[kind]) {
                Due.is(worth[kind], x.ask(kind % 5, as));
            }
        }
        // The least that it can be worth: h less 1 with h 0.
        x.board(5, 0, 0);
        x.lay(0, 1, 6);
        Due.row(Due.of(-1, -1), x.ask(0, 0), x.ask(0, 5));
    }

    private static void askRefused() {
        Doc.says("Promise 37", "BAD; NOTHING; KIND: it is no BOARD, or not of that KIND, nor of one under it.");
        Twins.same(BAD, Twins.State.SOME, x -> x.ask(-1, 0), x -> x.ask(5, 0), x -> x.ask(LEAST, 0),
                x -> x.ask(GREATEST, 0), x -> x.ask(1, -1), x -> x.ask(1, 6), x -> x.ask(1, LEAST),
                x -> x.ask(1, GREATEST), x -> x.ask(0, -1), x -> x.ask(0, 6), x -> x.ask(2, 6), x -> x.ask(3, -1));
        Twins.same(NOTHING, Twins.State.SOME, x -> x.ask(0, 0), x -> x.ask(0, 5), x -> x.ask(4, 0));
        // A sheet, a number; slot 1 holds a board that lies.
        Twins.same(KIND, Twins.State.SOME, x -> x.ask(2, 0), x -> x.ask(2, 5), x -> x.ask(3, 0), x -> x.ask(3, 4),
                x -> x.ask(1, 1), x -> x.ask(1, 3), x -> x.ask(1, 5));
        Twins.same(4, Twins.State.SOME, x -> x.ask(1, 0), x -> x.ask(1, 2), x -> x.ask(1, 4));
    }

    private static void item() {
        Doc.says("Promise 38", "A place of the SHEET in a SLOT.");
        BookBoards x = new BookBoards();
        x.sheet(0, 0, 24);
        x.mark(0, 0, -32768);
        x.mark(0, 23, 32767);
        x.lay(0, 2, 0);
        Due.row(Due.of(-32768, 0, 0, 32767), x.item(0, 0), x.item(0, 1), x.item(0, 22), x.item(0, 23));
        Due.fill(x, 1, 1, -99999, 99999);
        x.lay(4, 2, 1);
        Due.row(Due.of(-99999, 99999), x.item(4, 0), x.item(4, 1));
    }

    private static void itemRefused() {
        Doc.says("Promise 38", "BAD: slot; NOTHING; KIND: it is no SHEET; INDEX; KIND: NO NUMBER.");
        Twins.same(BAD, Twins.State.SOME, x -> x.item(-1, 0), x -> x.item(5, 0), x -> x.item(LEAST, 0),
                x -> x.item(GREATEST, 0), x -> x.item(5, 99), x -> x.item(-1, -1));
        Twins.same(NOTHING, Twins.State.SOME, x -> x.item(0, 0), x -> x.item(0, -1), x -> x.item(4, 99));
        Twins.same(KIND, Twins.State.SOME, x -> x.item(1, 0), x -> x.item(1, -1), x -> x.item(3, 0),
                x -> x.item(3, 99), x -> x.item(3, LEAST));
        Twins.same(INDEX, Twins.State.SOME, x -> x.item(2, 3), x -> x.item(2, -1), x -> x.item(2, 24),
                x -> x.item(2, LEAST), x -> x.item(2, GREATEST));
        Twins.same(INDEX, Twins.State.FULL, x -> x.item(1, 24), x -> x.item(2, 24), x -> x.item(1, -1));
        Twins.same(KIND, Twins.State.SOME, x -> x.item(2, 1));
        // A row without places has none.
        BookBoards x = Twins.made(Twins.State.SOME);
        x.lay(0, 2, 2);
        Due.row(Due.of(INDEX, INDEX), x.item(0, 0), x.item(0, -1));
    }

    private static void rest() {
        Doc.says("Promise 39", "The rest of the number in a SLOT by n.");
        BookBoards x = new BookBoards();
        int[] numbers = {0, 7, -7, LEAST, GREATEST};
        int[] by = {1, -1, 2, -2, 7, -7, 8, LEAST, GREATEST};
        int[][] due = {{0, 0, 0, 0, 0, 0, 0, 0, 0}, {0, 0, 1, 1, 0, 0, 7, 7, 7}, {0, 0, -1, -1, 0, 0, -7, -7, -7},
            {0, 0, 0, 0, -2, -2, 0, 0, -1}, {0, 0, 1, 1, 1, 1, 7, GREATEST, 0}};
        for (int i = 0; i < numbers.length; i++) {
            x.lay(i, 3, numbers[i]);
            for (int j = 0; j < by.length; j++) {
                Due.is(due[i][j], x.rest(i, by[j]));
            }
        }
    }

    private static void restRefused() {
        Doc.says("Promise 39", "BAD: slot; NOTHING; KIND: it is no number; NO: n is 0.");
        Twins.same(BAD, Twins.State.SOME, x -> x.rest(-1, 1), x -> x.rest(5, 1), x -> x.rest(LEAST, 1),
                x -> x.rest(GREATEST, 1), x -> x.rest(5, 0), x -> x.rest(-1, 0));
        Twins.same(NOTHING, Twins.State.SOME, x -> x.rest(0, 1), x -> x.rest(0, 0), x -> x.rest(4, -1));
        Twins.same(KIND, Twins.State.SOME, x -> x.rest(1, 1), x -> x.rest(1, 0), x -> x.rest(2, 1), x -> x.rest(2, 0));
        Twins.same(NO, Twins.State.SOME, x -> x.rest(3, 0));
        Twins.same(NO, Twins.State.FULL, x -> x.rest(3, 0), x -> x.rest(4, 0));
        Twins.same(0, Twins.State.SOME, x -> x.rest(3, 1), x -> x.rest(3, -1));
        Twins.same(0, Twins.State.FULL, x -> x.rest(3, -1));
    }
}
