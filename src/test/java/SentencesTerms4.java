/** 'Terms', part 4: years, walls, inches, shifts, and what is drawn. */
final class SentencesTerms4 {
    private static final int BAD = Due.BAD, FULL = Due.FULL, NONE = Due.NONE;
    private static final int LEAST = Integer.MIN_VALUE, GREATEST = Integer.MAX_VALUE;

    private SentencesTerms4() {
    }

    static void all() {
        grows();
        growsWhere();
        growHeld();
        fullBy();
        mostFull();
        wall();
        inch();
        shift();
        shiftTies();
        draws();
        drawnBooks();
    }

    private static BookBoards ofParts(int... sizesAndParts) {
        BookBoards x = new BookBoards();
        for (int i = 0; i + 1 < sizesAndParts.length; i += 2) {
            x.book(sizesAndParts[i], sizesAndParts[i + 1]);
        }
        return x;
    }

    private static void grows() {
        Doc.says("Terms 4",
                "YEARS are 1, 2, .. : in each YEAR each PART of which there is a BOOK grows by what grow gives");
        // The first year is 1: not 0, and none ahead of it.
        BookBoards x = ofParts(2010, 3);
        Due.text(x, "grow y");
        Due.row(Due.of(10, 11, 13, 16), x.most(0, 1), x.most(1, 1), x.most(2, 1), x.most(3, 1));
        Due.text(x, "grow (y=1)*7+(y=60)*9");
        Due.row(Due.of(10, 17, 17, 26), x.most(0, 1), x.most(1, 1), x.most(59, 1), x.most(60, 1));
        // A part of which there is no book does not grow; one with many books grows once.
        Due.text(x, "grow 50*(!(p=3))");
        Due.is(10, x.most(60, 1));
        x = ofParts(2010, 3, 2010, 3, 2010, 3);
        Due.row(Due.of(30, 31), x.most(0, 1), x.most(1, 1));
        // All eight parts, the first and the last.
        x = ofParts(2001, 0, 2001, 1, 2001, 2, 2001, 3, 2001, 4, 2001, 5, 2001, 6, 2001, 7);
        Due.row(Due.of(8, 16), x.most(0, 1), x.most(1, 1));
        Due.text(x, "grow (p=0)*3+(p=7)*20");
        Due.is(31, x.most(1, 1));
    }

    private static void growsWhere() {
        Doc.says("Terms 4", "at the LINE of THE SETTING in which its last BOOK is.");
        BookBoards x = ofParts(2060, 1, 2060, 2, 2060, 1);
        Due.text(x, "grow (p=1)*9");
        Due.row(Due.of(2, 69), x.most(1, 0), x.most(1, 1));
        Due.text(x, "grow (p=2)*9");
        Due.row(Due.of(1, 69), x.most(1, 0), x.most(1, 1));
        // One more book of the part, and it grows there.
        x.book(2060, 2);
        Due.row(Due.of(3, 69), x.most(1, 0), x.most(1, 1));
        // The lines are those of the setting as it is now.
        x.set(0, 999);
        Due.row(Due.of(0, 249), x.most(1, 0), x.most(1, 1));
    }

    private static void growHeld() {
        Doc.says("Terms 4", "(held within 0 .. 99; without a TEXT: 1),");
        BookBoards x = ofParts(2010, 3);
        Due.row(Due.of(11, 70), x.most(1, 1), x.most(60, 1));
        String[] grows = {"0", "0-1", "1", "98", "99", "100", "9999*9999*21", "9999*9999*22"};
        int[] held = {0, 0, 1, 98, 99, 99, 99, 0};
        for (int i = 0; i < grows.length; i++) {
            Due.text(x, "grow " + grows[i]);
            Due.row(Due.of(10 + held[i], 10 + 60 * held[i]), x.most(1, 1), x.most(60, 1));
        }
        // Each year and each part by itself.
        Due.text(x, "grow 200-y*100");
        Due.row(Due.of(109, 109, 109), x.most(1, 1), x.most(2, 1), x.most(3, 1));
        x.book(2010, 7);
        Due.text(x, "grow (p=3)*500-(p=7)*500");
        Due.is(20 + 99, x.most(1, 1));
    }

    private static void fullBy() {
        Doc.says("Terms 4",
                "FULL BY: the first YEAR, of 60, behind which some LINE is thicker than WIDTH (THICKNESS of its "
                + "BOOKS, and what grew at it).");
        BookBoards x = ofParts(2040, 0);
        x.set(0, 40);
        Due.is(1, x.fullBy());
        x.set(0, 41);
        Due.is(2, x.fullBy());
        x.set(0, 98);
        Due.is(59, x.fullBy());
        x.set(0, 99);
        Due.is(60, x.fullBy());
        x.set(0, 100);
        Due.is(NONE, x.fullBy());
        // Any line, and what it has with it: the second one is full ahead of the first.
        x = ofParts(2090, 0, 2050, 1, 2045, 2);
        Due.row(Due.of(2, 3), x.setting(-1), x.fullBy());
        Due.text(x, "grow (p=0)*6");
        Due.is(2, x.fullBy());
        Due.text(x, "grow (p=0)*6+(p=2)*6");
        Due.is(1, x.fullBy());
        Due.text(x, "grow (p=1)*3+(p=2)*3");
        Due.is(1, x.fullBy());
        Due.text(x, "grow (p=1)*3+(p=2)*2");
        Due.is(2, x.fullBy());
        Due.text(x, "grow (y=60)*6");
        Due.is(60, x.fullBy());
        Due.text(x, "grow (y>60)*99");
        Due.is(NONE, x.fullBy());
        Due.text(x, "grow 0");
        Due.is(NONE, x.fullBy());
        x.set(0, 95);
        Due.row(Due.of(2, NONE), x.setting(-1), x.fullBy());
    }

    private static void mostFull() {
        Doc.says("Terms 4", "MOST FULL behind n YEARS is the LINE that is thickest then; of several the least.");
        BookBoards x = ofParts(2060, 0, 2061, 1, 2060, 2);
        Due.row(Due.of(1, 61, 1, 62), x.most(0, 0), x.most(0, 1), x.most(1, 0), x.most(1, 1));
        Due.text(x, "grow !p");
        Due.row(Due.of(1, 61, 0, 61, 0, 62), x.most(0, 0), x.most(0, 1), x.most(1, 0), x.most(1, 1), x.most(2, 0),
                x.most(2, 1));
        Due.text(x, "grow p=2");
        Due.row(Due.of(1, 61, 2, 62), x.most(1, 0), x.most(1, 1), x.most(2, 0), x.most(2, 1));
        // All alike: the first line; the last one of 24.
        x = new BookBoards();
        for (int i = 0; i < 24; i++) {
            x.book(2060, i < 23 ? 0 : 7);
        }
        Due.text(x, "grow p=7");
        Due.row(Due.of(24, 0, 60, 23, 61), x.setting(-1), x.most(0, 0), x.most(0, 1), x.most(1, 0), x.most(1, 1));
        // Thicker than any width.
        x = ofParts(2099, 0, 2099, 1, 2099, 2, 2099, 3, 2099, 4, 2099, 5, 2099, 6, 2099, 7);
        x.set(0, 999);
        Due.text(x, "grow 99");
        Due.is(8 * 99 + 60 * 8 * 99, x.most(60, 1));
    }

    private static void wall() {
        Doc.says("Terms 4",
                "A WALL of m boards of a height h: BOOKS from the first on stand on it, each board as many as "
                + "its WIDTH takes, up to the first one that is higher than h, or has no room (TIED does not matter).");
        BookBoards x = Due.withBooks(2050, 3050, 4050, 2051, 2050);
        Due.row(Due.of(0, 2, 3, 4, 5, 5), x.wall(0, 99), x.wall(1, 99), x.wall(2, 99), x.wall(3, 99), x.wall(4, 99),
                x.wall(24, 99));
        // As high as h, and higher by one.
        Due.row(Due.of(0, 1, 1, 2, 2, 5), x.wall(24, 19), x.wall(24, 20), x.wall(24, 29), x.wall(24, 30),
                x.wall(24, 39), x.wall(24, 40));
        // Full to the end, and one less.
        x.set(0, 101);
        Due.row(Due.of(2, 4, 5), x.wall(1, 99), x.wall(2, 99), x.wall(3, 99));
        x.set(0, 99);
        Due.row(Due.of(1, 2, 3, 4, 5), x.wall(1, 99), x.wall(2, 99), x.wall(3, 99), x.wall(4, 99), x.wall(5, 99));
        // One that no board takes.
        x.set(0, 50);
        Due.row(Due.of(3, 3), x.wall(4, 99), x.wall(24, 99));
        x.set(0, 49);
        Due.row(Due.of(0, 0), x.wall(1, 99), x.wall(24, 99));
        x.set(0, 100);
        x.tie(0, true);
        x.tie(1, true);
        x.allow(1);
        Due.row(Due.of(NONE, 2, 3), x.setting(-2), x.wall(1, 99), x.wall(2, 99));
        // No board takes none, be it as thin as can be; one board of the least width takes one.
        BookBoards w = Due.withBooks(101, 101);
        Due.row(Due.of(0, 2), w.wall(0, 99), w.wall(1, 1));
        w.set(0, 1);
        Due.row(Due.of(0, 1, 2), w.wall(0, 99), w.wall(1, 1), w.wall(2, 1));
        // 24 books on 24 boards, and on 23.
        BookBoards y = new BookBoards();
        for (int i = 0; i < 24; i++) {
            y.book(9999, 0);
        }
        Due.row(Due.of(24, 23, 0), y.wall(24, 99), y.wall(23, 99), y.wall(24, 98));
        Due.row(Due.of(0, 0), new BookBoards().wall(0, 1), new BookBoards().wall(24, 99));
    }

    private static void inch() {
        Doc.says("Terms 4", "AN INCH of v: PRICES of THE SETTING together by WIDTH and v, less those as it is.");
        BookBoards x = Due.withBooks(2060, 3050, 2040);
        // By 150 and more 32, by 90 and more 54, by 60 and more 76, else none.
        Due.row(Due.of(0, 0, -22, -22, 0, 22, 22, NONE, NONE), x.inch(0), x.inch(49), x.inch(50), x.inch(899),
                x.inch(-10), x.inch(-11), x.inch(-40), x.inch(-41), x.inch(-99));
        Due.all(BAD, x.inch(900), x.inch(-100), x.inch(LEAST), x.inch(GREATEST));
        Due.row(Due.of(100, 54), x.set(0, 100), x.setting(-2));
        x.set(0, 59);
        Due.all(NONE, x.inch(0), x.inch(1), x.inch(940), x.inch(-58));
        // Ints that would wrap around with the width.
        x.set(0, 999);
        Due.row(Due.of(BAD, BAD, 0, 22), x.inch(GREATEST), x.inch(1), x.inch(0), x.inch(-900));
    }

    private static void shift() {
        Doc.says("Terms 4", "A SHIFT: if one more BOOK came to a place");
        Doc.says("Terms 4", "how many of the others would be in a LINE of another number than now.");
        BookBoards x = Due.withBooks(2050, 2050, 2050, 2050);
        // Two lines of two; one of 99 stands by itself.
        Due.row(Due.of(4, 3, 2, 1, 0), x.shift(0, 2099), x.shift(1, 2099), x.shift(2, 2099), x.shift(3, 2099),
                x.shift(4, 2099));
        Due.row(Due.of(2, 2, 1, 1, 0), x.shift(0, 2050), x.shift(1, 2050), x.shift(2, 2050), x.shift(3, 2050),
                x.shift(4, 2050));
        Due.row(Due.of(4, 2), x.count(0), x.setting(-1));
        Due.row(Due.of(0, 0), new BookBoards().shift(0, 101), new BookBoards().shift(0, 9999));
        // Its height counts: a high one draws the other high one to it.
        x = Due.withBooks(2040, 2040, 9020);
        Due.row(Due.of(0, 1), x.shift(3, 2020), x.shift(3, 9060));
        // With 23 books one more may come, to the first and to the last place.
        x = new BookBoards();
        for (int i = 0; i < 23; i++) {
            x.book(2099, 0);
        }
        Due.row(Due.of(23, 12, 1, 0), x.shift(0, 2099), x.shift(11, 2099), x.shift(22, 2099), x.shift(23, 2099));
        x.book(2099, 0);
        Due.all(FULL, x.shift(0, 2099), x.shift(24, 2099));
        // 23 on one line that is full: one as thick as it ahead of them, and one of 1 at the end.
        x = new BookBoards();
        for (int i = 0; i < 23; i++) {
            x.book(2001, 0);
        }
        x.set(0, 23);
        Due.row(Due.of(23, 22, 1, 0, 0), x.shift(0, 2023), x.shift(1, 2023), x.shift(22, 2023), x.shift(23, 2023),
                x.shift(23, 2001));
        // Its height and its thickness are those of its size, to the last one.
        x = Due.withBooks(2010);
        x.allow(30);
        Due.row(Due.of(1, 0, NONE), x.shift(0, 3099), x.shift(1, 3001), x.shift(0, 3101));
        x.set(0, 98);
        Due.row(Due.of(NONE, 1), x.shift(0, 3099), x.shift(0, 3098));
        x.clear();
        x.allow(29);
        Due.row(Due.of(NONE, NONE, 1), x.shift(0, 3001), x.shift(0, 3098), x.shift(0, 2998));
    }

    private static void shiftTies() {
        Doc.says("Terms 4", "(not TIED, nor is the one ahead of it any more),");
        BookBoards x = Due.withBooks(2050, 2050, 2050);
        x.tie(0, true);
        Due.row(Due.of(2, 3), x.setting(-1), x.shift(0, 2060));
        // Between the tied ones: 50 + 50 and then 50, 50; were they tied still, it could not be.
        Due.row(Due.of(1, 2), x.shift(1, 2050), x.shift(1, 2099));
        // Behind the last one that is tied: the new one is not bound to it.
        x.tie(2, true);
        Due.row(Due.of(0, 0), x.shift(3, 2050), x.shift(3, 2099));
        // A tie further on stays.
        x.tie(0, false);
        x.tie(1, true);
        x.tie(2, false);
        Due.row(Due.of(0, 2), x.shift(1, 2050), x.shift(1, 2051));
        // All is as it was.
        Due.row(Due.of(0, 1, 0), x.bookTold(0, 3), x.bookTold(1, 3), x.bookTold(2, 3));
        // Ties behind the place go on with their books, those ahead of it stay: 50 and 40 + 40, or 50 + 40 and 40.
        x = Due.withBooks(2050, 2040, 2040);
        x.tie(1, true);
        Due.row(Due.of(1, 0, 0, 1), x.setting(1), x.shift(0, 2010), x.shift(1, 2010), x.shift(2, 2010));
        x.tie(1, false);
        Due.row(Due.of(2, 0, 0, 0), x.setting(1), x.shift(0, 2010), x.shift(1, 2010), x.shift(2, 2010));
        x = Due.withBooks(2050, 2040, 2040, 2010);
        x.tie(1, true);
        Due.row(Due.of(1, 0, 0), x.setting(1), x.shift(3, 2010), x.shift(4, 2010));
    }

    private static void draws() {
        Doc.says("Terms 4",
                "z is told (1 at first). A draw: z becomes z * 1103515245 + 12345 (an int); it gives z >>> 8.");
        Due.is(1, new BookBoards().count(9));
        for (int seed : new int[] {1, 0, -1, LEAST, GREATEST, 12345, -987654321}) {
            BookBoards x = new BookBoards();
            x.seed(seed);
            x.deal(1);
            long z = seed;
            int[] draws = new int[3];
            for (int i = 0; i < 3; i++) {
                z = z * 1103515245L + 12345L & 0xFFFFFFFFL;
                draws[i] = (int) (z >> 8);
            }
            Due.row(Due.of(20 + draws[0] % 30, 1 + draws[1] % 20, draws[2] % 8), x.bookTold(0, 0), x.bookTold(0, 1),
                    x.bookTold(0, 2));
            Due.is((int) z, x.count(9));
        }
    }

    private static void drawnBooks() {
        Doc.says("Terms 4",
                "A BOOK that is drawn: HEIGHT 20, and the rest of a draw by 30; THICKNESS 1, and that of one by "
                + "20; PART that of one by 8.");
        int[] least = {99, 99, 99};
        int[] most = {-1, -1, -1};
        for (int seed = 0; seed < 40; seed++) {
            BookBoards x = new BookBoards();
            x.seed(seed * 1000003);
            x.deal(24);
            for (int book = 0; book < 24; book++) {
                for (int what = 0; what < 3; what++) {
                    least[what] = Math.min(least[what], x.bookTold(book, what));
                    most[what] = Math.max(most[what], x.bookTold(book, what));
                }
            }
        }
        Due.row(Due.of(20, 1, 0), least);
        Due.row(Due.of(49, 20, 7), most);
        // From 1 on, as the shared runs have it.
        BookBoards x = new BookBoards();
        x.deal(1);
        Due.row(Due.of(34, 13, 4, 0), x.bookTold(0, 0), x.bookTold(0, 1), x.bookTold(0, 2), x.bookTold(0, 3));
    }
}
