/** Promises 27 to 31: fullBy, most, wall, inch, shift. */
final class SentencesYears {
    private static final int BAD = Due.BAD, FULL = Due.FULL, NONE = Due.NONE;
    private static final int LEAST = Integer.MIN_VALUE, GREATEST = Integer.MAX_VALUE;

    private SentencesYears() {
    }

    static void all() {
        fullBy();
        fullByNone();
        most();
        mostRefused();
        wall();
        wallRefused();
        inch();
        inchRefused();
        shift();
        shiftRefused();
    }

    private static void fullBy() {
        Doc.says("Promise 27", "FULL BY.");
        for (int year = 1; year <= 60; year++) {
            BookBoards x = Due.withBooks(2030);
            x.set(0, 29 + year);
            Due.is(year, x.fullBy());
        }
        // Nothing has grown behind the call.
        Twins.same(4, Twins.State.SOME, x -> x.fullBy());
        BookBoards x = Due.withBooks(2030);
        x.set(0, 40);
        Due.row(Due.of(11, 11, 30), x.fullBy(), x.fullBy(), x.most(0, 1));
    }

    private static void fullByNone() {
        Doc.says("Promise 27", "NONE: not by 60 YEARS, or there is no SETTING, or it has no LINES.");
        BookBoards x = Due.withBooks(2030);
        x.set(0, 89);
        Due.is(60, x.fullBy());
        x.set(0, 90);
        Due.is(NONE, x.fullBy());
        x.set(0, 29);
        Due.is(NONE, x.fullBy());
        x.set(0, 30);
        Due.is(1, x.fullBy());
        x.allow(19);
        Due.is(NONE, x.fullBy());
        Twins.same(NONE, Twins.State.TIGHT, y -> y.fullBy());
        Twins.same(NONE, Twins.State.BARE, y -> y.fullBy());
        // No lines, where there were some: what grew then is forgotten.
        BookBoards y = new BookBoards();
        y.keep();
        y.book(2099, 0);
        Due.is(2, y.fullBy());
        y.back();
        Due.is(NONE, y.fullBy());
    }

    private static void most() {
        Doc.says("Promise 28", "MOST FULL behind n (0 .. 60) YEARS: what 0 the LINE, 1 how thick.");
        BookBoards x = new BookBoards();
        x.book(2060, 0);
        x.book(2050, 1);
        Due.text(x, "grow p");
        // The second line is 50 + n thick: as thick as the first with n 10.
        Due.row(Due.of(0, 60, 0, 60), x.most(0, 0), x.most(0, 1), x.most(1, 0), x.most(1, 1));
        Due.row(Due.of(0, 60, 0, 60, 1, 61), x.most(9, 0), x.most(9, 1), x.most(10, 0), x.most(10, 1), x.most(11, 0),
                x.most(11, 1));
        Due.row(Due.of(1, 109, 1, 110), x.most(59, 0), x.most(59, 1), x.most(60, 0), x.most(60, 1));
        Due.row(Due.of(0, 60), x.most(0, 0), x.most(0, 1));
    }

    private static void mostRefused() {
        Doc.says("Promise 28", "BAD; NONE: there is no SETTING, or it has no LINES.");
        for (Twins.State state : Twins.State.values()) {
            Twins.same(BAD, state, x -> x.most(-1, 0), x -> x.most(61, 0), x -> x.most(0, -1), x -> x.most(0, 2),
                    x -> x.most(LEAST, 0), x -> x.most(GREATEST, 1), x -> x.most(0, LEAST), x -> x.most(60, GREATEST),
                    x -> x.most(61, 2));
        }
        for (Twins.State state : new Twins.State[] {Twins.State.BARE, Twins.State.TIGHT}) {
            Twins.same(NONE, state, x -> x.most(0, 0), x -> x.most(0, 1), x -> x.most(60, 0), x -> x.most(60, 1));
        }
    }

    private static void wall() {
        Doc.says("Promise 29", "How many BOOKS stand on A WALL of m (0 .. 24) boards of a height h (1 .. 99).");
        BookBoards x = Due.withBooks(150, 150, 9950, 101);
        Due.row(Due.of(0, 2, 4, 4), x.wall(0, 99), x.wall(1, 99), x.wall(2, 99), x.wall(24, 99));
        Due.row(Due.of(0, 2, 2, 2), x.wall(0, 1), x.wall(1, 1), x.wall(24, 1), x.wall(24, 98));
        Due.row(Due.of(0, 0, 0), new BookBoards().wall(0, 1), new BookBoards().wall(1, 1),
                new BookBoards().wall(24, 99));
    }

    private static void wallRefused() {
        Doc.says("Promise 29", "BAD.");
        for (Twins.State state : Twins.State.values()) {
            Twins.same(BAD, state, x -> x.wall(-1, 1), x -> x.wall(25, 1), x -> x.wall(0, 0), x -> x.wall(0, 100),
                    x -> x.wall(24, 0), x -> x.wall(24, 100), x -> x.wall(LEAST, 1), x -> x.wall(GREATEST, 1),
                    x -> x.wall(1, LEAST), x -> x.wall(1, GREATEST), x -> x.wall(1, -1));
        }
    }

    private static void inch() {
        Doc.says("Promise 30", "AN INCH of v.");
        BookBoards x = Due.withBooks(2050, 3051);
        // 101 takes both: 32 in place of 54.
        Due.row(Due.of(0, -22, -22, 0, 0), x.inch(0), x.inch(1), x.inch(899), x.inch(-1), x.inch(-49));
        x.set(0, 101);
        Due.row(Due.of(22, 0, 0, 22), x.inch(-1), x.inch(0), x.inch(898), x.inch(-50));
        // By the text of prices.
        Due.text(x, "cost 0");
        Due.row(Due.of(0, 0, 0), x.inch(-50), x.inch(0), x.inch(898));
        Due.text(x, "cost 9999");
        Due.row(Due.of(9999, 0), x.inch(-1), x.inch(1));
    }

    private static void inchRefused() {
        Doc.says("Promise 30", "BAD: WIDTH and v would not be 1 .. 999; NONE: one of both has no SETTING.");
        Twins.same(BAD, Twins.State.BARE, x -> x.inch(-100), x -> x.inch(900), x -> x.inch(LEAST),
                x -> x.inch(GREATEST));
        Twins.same(0, Twins.State.BARE, x -> x.inch(-99), x -> x.inch(899));
        Twins.same(BAD, Twins.State.TIGHT, x -> x.inch(-9), x -> x.inch(991), x -> x.inch(LEAST),
                x -> x.inch(GREATEST));
        Twins.same(NONE, Twins.State.TIGHT, x -> x.inch(-8), x -> x.inch(990), x -> x.inch(0));
        Twins.same(NONE, Twins.State.SOME, x -> x.inch(-59), x -> x.inch(-31));
        Twins.same(BAD, Twins.State.SOME, x -> x.inch(-60), x -> x.inch(940));
        for (int width : new int[] {1, 2, 500, 998, 999}) {
            BookBoards x = new BookBoards();
            x.set(0, width);
            Due.row(Due.of(0, BAD, 0, BAD), x.inch(1 - width), x.inch(-width), x.inch(999 - width),
                    x.inch(1000 - width));
            // The sum would wrap around to a width.
            Due.all(BAD, x.inch(GREATEST), x.inch(LEAST), x.inch(GREATEST - width), x.inch(LEAST + width));
        }
    }

    private static void shift() {
        Doc.says("Promise 31", "A SHIFT by a BOOK (size as of book()) at a place 0 .. how many BOOKS there are.");
        Due.row(Due.of(0, 0), new BookBoards().shift(0, 101), new BookBoards().shift(0, 9999));
        BookBoards x = Due.withBooks(2060, 2060, 2060);
        Due.row(Due.of(3, 2, 1, 0), x.shift(0, 2060), x.shift(1, 2060), x.shift(2, 2060), x.shift(3, 2060));
        Due.row(Due.of(0, 0, 0, 0), x.shift(0, 2040), x.shift(1, 2040), x.shift(2, 2040), x.shift(3, 2040));
        Due.row(Due.of(0, 3, 2, 0), x.shift(0, 101), x.shift(0, 9999), x.shift(1, 9999), x.shift(3, 9999));
    }

    private static void shiftRefused() {
        Doc.says("Promise 31", "BAD; FULL: there are 24; NONE: one of both has no SETTING.");
        Twins.same(BAD, Twins.State.BARE, x -> x.shift(1, 101), x -> x.shift(-1, 101));
        Twins.same(BAD, Twins.State.SOME, x -> x.shift(6, 101), x -> x.shift(-1, 101), x -> x.shift(0, 100),
                x -> x.shift(0, 10000), x -> x.shift(0, 9900), x -> x.shift(0, 0), x -> x.shift(0, -101),
                x -> x.shift(LEAST, 101), x -> x.shift(GREATEST, 101), x -> x.shift(0, LEAST),
                x -> x.shift(0, GREATEST));
        Twins.same(FULL, Twins.State.FULL, x -> x.shift(0, 101), x -> x.shift(24, 9999));
        Twins.same(BAD, Twins.State.FULL, x -> x.shift(25, 101), x -> x.shift(-1, 101), x -> x.shift(24, 100));
        Twins.same(NONE, Twins.State.TIGHT, x -> x.shift(0, 101), x -> x.shift(5, 101));
        Twins.same(BAD, Twins.State.TIGHT, x -> x.shift(6, 101), x -> x.shift(0, 100));
        // Full ahead of none; now it has one, then not; now none, then one, by a tie that is parted.
        BookBoards x = Twins.made(Twins.State.FULL);
        x.set(0, 1);
        Due.row(Due.of(NONE, FULL), x.setting(-2), x.shift(0, 101));
        BookBoards y = Due.withBooks(2060, 2060);
        Due.row(Due.of(0, 0), y.shift(2, 2099), y.shift(2, 2040));
        y.set(0, 98);
        Due.row(Due.of(NONE, 0), y.shift(2, 2099), y.shift(2, 2098));
        y.tie(0, true);
        Due.row(Due.of(NONE, NONE), y.setting(-2), y.shift(1, 101));
        y.set(0, 120);
        Due.row(Due.of(44 / 2, 1), y.setting(-2), y.shift(1, 2060));
    }
}
