/** 'Terms', part 2: the setting, cases, few heights, books that stand apart, the edge. */
final class SentencesTerms2 {
    private static final int BAD = Due.BAD, NO = Due.NO, FULL = Due.FULL, NONE = Due.NONE;

    private SentencesTerms2() {
    }

    static void all() {
        linesByWidth();
        linesByTies();
        tall();
        allowed();
        price();
        leastPrices();
        ofSeveral();
        withoutBooks();
        casesFilled();
        casesCantBe();
        casesFewest();
        few();
        fewFirstOfSeveral();
        fewOfMany();
        apart();
        apartWalks();
        edge();
        edgeOfSeveral();
    }

    /** How many books each line has, from the first on. */
    private static int[] lengths(BookBoards x) {
        int[] row = new int[Math.max(0, x.setting(-1))];
        for (int i = 0; i < row.length; i++) {
            row[i] = x.line(i, 0);
        }
        return row;
    }

    private static void linesByWidth() {
        Doc.says("Terms 2", "THE SETTING: all BOOKS in their order are parted into LINES of one BOOK or more, the "
                + "THICKNESS of each together no more than WIDTH,");
        BookBoards x = Due.withBooks(2050, 2050);
        Due.row(Due.of(2), lengths(x));
        x.set(0, 99);
        Due.row(Due.of(1, 1), lengths(x));
        x.set(0, 50);
        Due.row(Due.of(1, 1), lengths(x));
        x.set(0, 49);
        Due.all(NONE, x.setting(-1), x.setting(-2), x.setting(0));
        // The least and the greatest width and thickness.
        x = Due.withBooks(2001);
        x.set(0, 1);
        Due.row(Due.of(1), lengths(x));
        x.book(2002, 0);
        Due.is(NONE, x.setting(-1));
        x = new BookBoards();
        for (int i = 0; i < 24; i++) {
            x.book(2099, 0);
        }
        x.set(0, 99);
        Due.is(24, x.setting(-1));
        for (int i = 0; i < 24; i++) {
            Due.row(Due.of(i, 1, i), x.setting(i), x.line(i, 0), x.bookTold(i, 4));
        }
        Due.row(Due.of(NONE, NONE), x.setting(24), x.line(24, 0));
        x.set(0, 98);
        Due.is(NONE, x.setting(-1));
        x.set(0, 999);
        Due.row(Due.of(10, 10, 4), lengths(x));
        Due.row(Due.of(0, 10, 20), x.setting(0), x.setting(1), x.setting(2));
        // All 24 on one line that is full to its end.
        x = new BookBoards();
        for (int i = 0; i < 23; i++) {
            x.book(2041, 0);
        }
        x.book(2056, 0);
        x.set(0, 999);
        Due.row(Due.of(24), lengths(x));
        x.set(0, 998);
        Due.is(2, x.setting(-1));
    }

    private static void linesByTies() {
        Doc.says("Terms 2", "no two TIED ones parted.");
        BookBoards x = Due.withBooks(2050, 2030, 2020, 2050);
        Due.row(Due.of(3, 1), lengths(x));
        x.tie(2, true);
        Due.row(Due.of(2, 2), lengths(x));
        x.tie(1, true);
        Due.row(Due.of(1, 3), lengths(x));
        x.tie(0, true);
        Due.is(NONE, x.setting(-1));
        x.set(0, 149);
        Due.is(NONE, x.setting(-1));
        x.set(0, 150);
        Due.row(Due.of(4), lengths(x));
        // The last one has no next one, to be tied to or not.
        x.tie(3, true);
        Due.row(Due.of(4), lengths(x));
        x.book(2001, 0);
        Due.is(NONE, x.setting(-1));
        x.set(0, 151);
        Due.row(Due.of(5), lengths(x));
    }

    private static void tall() {
        Doc.says("Terms 2", "TALL is the greatest HEIGHT of a LINE.");
        BookBoards x = Due.withBooks(9930, 130, 9830, 5030, 5130, 5030);
        Due.row(Due.of(3, 3), lengths(x));
        Due.row(Due.of(99, 51), x.line(0, 2), x.line(1, 2));
        x.set(0, 30);
        Due.row(Due.of(99, 1, 98, 50, 51, 50), x.line(0, 2), x.line(1, 2), x.line(2, 2), x.line(3, 2), x.line(4, 2),
                x.line(5, 2));
    }

    private static void allowed() {
        Doc.says("Terms 2", "Up to 6 ALLOWED heights are told: SET of a LINE is the least ALLOWED one that is TALL, or "
                + "more (without one it can't be); if none are told: TALL.");
        BookBoards x = Due.withBooks(3010);
        Due.is(30, x.line(0, 3));
        x.allow(29);
        Due.all(NONE, x.line(0, 3), x.setting(-1), x.setting(-2), x.cases(0));
        x.allow(99);
        Due.is(99, x.line(0, 3));
        x.allow(31);
        Due.is(31, x.line(0, 3));
        x.allow(60);
        Due.is(31, x.line(0, 3));
        x.allow(30);
        Due.row(Due.of(30, 30), x.line(0, 2), x.line(0, 3));
        Due.row(Due.of(6, FULL, NO, 6), x.allow(1), x.allow(32), x.allow(1), x.count(3));
        Due.row(Due.of(30, 32), x.line(0, 3), x.setting(-2));
        // All six count, in whatever order they were told.
        x = Due.withBooks(1060, 2060, 3060, 4060, 5060, 9960);
        for (int height : new int[] {99, 12, 50, 45, 21, 30}) {
            x.allow(height);
        }
        Due.row(Due.of(12, 21, 30, 45, 50, 99), x.line(0, 3), x.line(1, 3), x.line(2, 3), x.line(3, 3), x.line(4, 3),
                x.line(5, 3));
        Due.is(6, x.clear());
        Due.row(Due.of(10, 20, 99), x.line(0, 3), x.line(1, 3), x.line(5, 3));
        // The greatest height of a book, and no allowed one for it.
        x.allow(98);
        Due.is(NONE, x.setting(-1));
    }

    private static int priceBy(String e) {
        BookBoards x = Due.withBooks(2010);
        Due.is(0, Due.text(x, "cost " + e));
        Due.is(x.line(0, 4), x.setting(-2));
        return x.line(0, 4);
    }

    private static void price() {
        Doc.says("Terms 2", "PRICE of a LINE: what cost gives, held within 0 .. 9999 (without a TEXT: SET and PLANK).");
        Due.row(Due.of(0, 0, 1, 9998, 9999, 9999), priceBy("0"), priceBy("0-1"), priceBy("1"), priceBy("9998"),
                priceBy("9999"), priceBy("9999+1"));
        // Ints that wrap: 99980001 times 22 is over the greatest int, and so below 0.
        Due.row(Due.of(9999, 0, 0, 9999), priceBy("9999*9999*21"), priceBy("9999*9999*22"),
                priceBy("4096*4096*128"), priceBy("4096*4096*128-1"));
        BookBoards x = Due.withBooks(101);
        x.set(1, 0);
        Due.row(Due.of(1, 1), x.line(0, 4), x.setting(-2));
        x.allow(99);
        x.set(1, 9);
        Due.row(Due.of(108, 108), x.line(0, 4), x.setting(-2));
        // Each price is held by itself: 24 times the greatest one.
        x = new BookBoards();
        for (int i = 0; i < 24; i++) {
            x.book(2099, 0);
        }
        Due.text(x, "cost 9999*9");
        Due.row(Due.of(24 * 9999, 9999), x.setting(-2), x.line(23, 4));
    }

    private static void leastPrices() {
        Doc.says("Terms 2", "THE SETTING is that of the least PRICES together;");
        // As long a line as can be is not the least: 20 with 90, or 90 with 90.
        BookBoards x = Due.withBooks(2040, 9040, 9060);
        Due.row(Due.of(1, 2), lengths(x));
        Due.is(22 + 92, x.setting(-2));
        x = Due.withBooks(9060, 9040, 2040);
        Due.row(Due.of(2, 1), lengths(x));
        // More lines than the fewest, if they cost less.
        x = Due.withBooks(2010, 9010, 2010);
        Due.row(Due.of(3), lengths(x));
        Due.text(x, "cost h*n");
        Due.row(Due.of(1, 1, 1), lengths(x));
        Due.is(130, x.setting(-2));
        Due.text(x, "cost (h+1)*n*n");
        Due.row(Due.of(1, 1, 1), lengths(x));
        // The least by 1.
        x = Due.withBooks(2010, 2110, 2010);
        Due.text(x, "cost h+(n=3)*21");
        Due.row(Due.of(2, 1), lengths(x));
        Due.is(41, x.setting(-2));
        Due.text(x, "cost h+(n=3)*19");
        Due.row(Due.of(3), lengths(x));
        Due.is(40, x.setting(-2));
    }

    private static void ofSeveral() {
        Doc.says("Terms 2", "of several that whose first LINE has most BOOKS, then the next likewise, and so on.");
        BookBoards x = Due.withBooks(2040, 2040, 2040, 2040, 2040);
        Due.text(x, "cost 0");
        Due.row(Due.of(2, 2, 1), lengths(x));
        x.set(0, 120);
        Due.row(Due.of(3, 2), lengths(x));
        x.set(0, 999);
        Due.row(Due.of(5), lengths(x));
        x.set(0, 40);
        Due.row(Due.of(1, 1, 1, 1, 1), lengths(x));
        // Only those with the least prices are looked at.
        x.set(0, 999);
        Due.text(x, "cost n=5|n=4");
        Due.row(Due.of(3, 2), lengths(x));
        Due.text(x, "cost n>2");
        Due.row(Due.of(2, 2, 1), lengths(x));
        Due.text(x, "cost n=2|n>3");
        Due.row(Due.of(3, 1, 1), lengths(x));
        // The next lines count where the first ones are alike: 1, 3, 2 ahead of 1, 2, 3 and of 1, 1, 4.
        x = Due.withBooks(2060, 2060, 2020, 2020, 2020, 2020);
        Due.row(Due.of(1, 3, 2), lengths(x));
        // More lines ahead of fewer ones, where the prices are alike.
        x = Due.withBooks(2010, 2110, 2010);
        Due.text(x, "cost h+(n=3)*20");
        Due.row(Due.of(3), lengths(x));
        Due.text(x, "cost (n=3)*9");
        Due.row(Due.of(2, 1), lengths(x));
    }

    private static void withoutBooks() {
        Doc.says("Terms 2", "(Without BOOKS there is one, of no LINES; there may be none.)");
        BookBoards x = new BookBoards();
        Due.row(Due.of(0, 0, NONE, NONE), x.setting(-2), x.setting(-1), x.setting(0), x.line(0, 0));
        x.set(0, 1);
        x.allow(1);
        Due.text(x, "cost 5");
        Due.row(Due.of(0, 0, NONE, 0, 0), x.setting(-2), x.setting(-1), x.setting(0), x.cases(0), x.cases(1));
        Due.row(Due.of(0, 0, 0, 100), x.inch(0), x.apart(1), x.apart(100), x.edge());
        // Nothing is left over of books that went, with which there was none.
        BookBoards y = new BookBoards();
        y.keep();
        y.book(2010, 0);
        y.book(2099, 0);
        y.set(0, 98);
        Due.row(Due.of(NONE, 0, 0, 0, 0), y.setting(-2), y.back(), y.setting(-2), y.setting(-1), y.cases(0));
        // One book that is too thick, or too high, and there is none.
        x = Due.withBooks(2010, 2010, 2099);
        x.set(0, 98);
        Due.all(NONE, x.setting(-2), x.setting(-1), x.setting(0));
        x.set(0, 99);
        Due.is(2, x.setting(-1));
        x.allow(19);
        Due.all(NONE, x.setting(-2), x.setting(-1), x.setting(0));
    }

    private static void casesFilled() {
        Doc.says("Terms 2", "CASES: of all ways to part BOOKS into LINES (as above), LINES in order from the first "
                + "CASE on, each as high as SET and PLANK, the next CASE begun when one would be too high");
        BookBoards x = Due.withBooks(3060, 4060, 5060);
        // Lines of 32, 42 and 52.
        x.set(2, 126);
        Due.row(Due.of(1, 126), x.cases(0), x.cases(1));
        x.set(2, 125);
        Due.row(Due.of(2, 52), x.cases(0), x.cases(1));
        x.set(2, 74);
        Due.row(Due.of(2, 52), x.cases(0), x.cases(1));
        x.set(2, 73);
        Due.row(Due.of(3, 52), x.cases(0), x.cases(1));
        x.set(1, 0);
        x.set(2, 90);
        Due.row(Due.of(2, 50), x.cases(0), x.cases(1));
        x.set(2, 120);
        Due.row(Due.of(1, 120), x.cases(0), x.cases(1));
        // A case is left for good: 30, then 40, and the last 10 does not go back to the first one.
        x = Due.withBooks(3060, 4060, 1060);
        x.set(1, 0);
        x.set(2, 49);
        Due.row(Due.of(3, 10), x.cases(0), x.cases(1));
        x.set(2, 50);
        Due.row(Due.of(2, 50), x.cases(0), x.cases(1));
        // By allowed heights.
        x.allow(60);
        x.set(2, 60);
        Due.row(Due.of(3, 60), x.cases(0), x.cases(1));
        x.set(2, 180);
        Due.row(Due.of(1, 180), x.cases(0), x.cases(1));
        // A case that is full to the greatest height there is, and the next one begun behind it.
        x = Due.withBooks(9960, 9960, 9960, 9960, 9960, 9960, 9960, 9960, 9960, 1860);
        x.set(1, 9);
        x.set(2, 999);
        Due.row(Due.of(1, 999), x.cases(0), x.cases(1));
        x.book(160, 0);
        Due.row(Due.of(2, 10), x.cases(0), x.cases(1));
        x.book(9960, 0);
        Due.row(Due.of(2, 118), x.cases(0), x.cases(1));
        // The least height that can be used in a case, ahead of a full one.
        x = Due.withBooks(9960, 160, 9960, 160);
        x.set(1, 0);
        x.set(2, 99);
        Due.row(Due.of(4, 1), x.cases(0), x.cases(1));
        x.set(2, 100);
        Due.row(Due.of(2, 100), x.cases(0), x.cases(1));
        // As many cases as there are books; a case of the greatest height; ties, and no text of prices.
        x = new BookBoards();
        for (int i = 0; i < 24; i++) {
            x.book(9999, 0);
        }
        x.set(2, 101);
        Due.row(Due.of(24, 101), x.cases(0), x.cases(1));
        x.set(2, 999);
        Due.row(Due.of(3, 6 * 101), x.cases(0), x.cases(1));
        Due.text(x, "cost 0");
        Due.row(Due.of(3, 6 * 101), x.cases(0), x.cases(1));
        x.tie(0, true);
        Due.is(NONE, x.cases(0));
        x.set(0, 198);
        Due.row(Due.of(2, 3 * 101), x.cases(0), x.cases(1));
    }

    private static void casesCantBe() {
        Doc.says("Terms 2", "(one that is higher than CASE can't be):");
        BookBoards x = Due.withBooks(2010, 9910);
        x.set(1, 9);
        x.set(2, 108);
        Due.row(Due.of(1, 108), x.cases(0), x.cases(1));
        x.set(2, 107);
        Due.all(NONE, x.cases(0), x.cases(1));
        x.set(1, 8);
        Due.row(Due.of(1, 107), x.cases(0), x.cases(1));
        x = Due.withBooks(101);
        x.set(1, 0);
        x.set(2, 1);
        Due.row(Due.of(1, 1), x.cases(0), x.cases(1));
        x.set(1, 1);
        Due.all(NONE, x.cases(0), x.cases(1));
    }

    private static void casesFewest() {
        Doc.says("Terms 2", "the fewest CASES, of these the least height that is used in the last one.");
        // The setting is 10, 30 (two books), 10, and would want three cases of 30.
        BookBoards x = Due.withBooks(1050, 3050, 3050, 1050);
        x.set(1, 0);
        x.set(2, 30);
        Due.row(Due.of(50, 3), x.setting(-2), x.setting(-1));
        Due.row(Due.of(2, 30), x.cases(0), x.cases(1));
        x.set(2, 40);
        Due.row(Due.of(2, 10), x.cases(0), x.cases(1));
        x.set(2, 50);
        Due.row(Due.of(1, 50), x.cases(0), x.cases(1));
        // Of ways with two cases: 30 and then 10, or 30 and then 20, or 30 and then 20 and 10.
        x = Due.withBooks(3050, 2050, 1050);
        x.set(1, 0);
        x.set(2, 30);
        Due.row(Due.of(2, 10), x.cases(0), x.cases(1));
        x = Due.withBooks(1050, 2050, 3050);
        x.set(1, 0);
        x.set(2, 30);
        Due.row(Due.of(2, 30), x.cases(0), x.cases(1));
    }

    private static void few() {
        Doc.says("Terms 2",
                "FEW by k: of all sets of k unlike HEIGHTS of BOOKS, in place of ALLOWED ones, that by which "
                + "THE SETTING has the least PRICES together;");
        // Fewer unlike heights than k, just as many, and one more.
        BookBoards x = Due.withBooks(3060, 3060);
        Due.row(Due.of(NONE, NONE, NONE, 64, 30), x.few(2, -1), x.few(2, 0), x.few(3, -1), x.few(1, -1), x.few(1, 0));
        x.book(2060, 0);
        Due.row(Due.of(NONE, 86, 20, 30, 96), x.few(3, -1), x.few(2, -1), x.few(2, 0), x.few(2, 1), x.few(1, -1));
        x.book(4060, 0);
        Due.row(Due.of(128, 20, 30, 40), x.few(3, -1), x.few(3, 0), x.few(3, 1), x.few(3, 2));
        // With two of 20, 30, 40: 30 + 30 + 30 + 40, or 40 + 40 + 20 + 40.
        Due.row(Due.of(138, 30, 40), x.few(2, -1), x.few(2, 0), x.few(2, 1));
        Due.row(Due.of(168, 40), x.few(1, -1), x.few(1, 0));
        // Allowed heights do not count, neither those that would help nor those that would not do.
        x.allow(10);
        Due.row(Due.of(NONE, 128, 138, 168), x.setting(-2), x.few(3, -1), x.few(2, -1), x.few(1, -1));
        x.allow(99);
        Due.row(Due.of(404, 128), x.setting(-2), x.few(3, -1));
        // The prices are those of the text, and no ties are parted.
        Due.text(x, "cost h*h");
        Due.row(Due.of(900 + 900 + 400 + 1600, 900 * 3 + 1600), x.few(3, -1), x.few(2, -1));
        x.tie(0, true);
        Due.is(NONE, x.few(1, -1));
        x.set(0, 120);
        Due.row(Due.of(900 + 1600, 1600 + 1600), x.few(2, -1), x.few(1, -1));
        // No such set without books, nor where a book is too thick.
        Due.row(Due.of(NONE, NONE, NONE), new BookBoards().few(1, -1), new BookBoards().few(2, 1),
                new BookBoards().few(3, 2));
        x.set(0, 59);
        Due.all(NONE, x.few(1, -1), x.few(2, -1), x.few(3, -1));
    }

    private static void fewFirstOfSeveral() {
        Doc.says("Terms 2", "of several the first (heights rising, the lesser first).");
        BookBoards x = Due.withBooks(4010, 1010, 3010, 2010);
        // One line of 40 by any set with 40: the lesser heights come first.
        Due.row(Due.of(42, 40), x.few(1, -1), x.few(1, 0));
        Due.row(Due.of(42, 10, 40), x.few(2, -1), x.few(2, 0), x.few(2, 1));
        Due.row(Due.of(42, 10, 20, 40), x.few(3, -1), x.few(3, 0), x.few(3, 1), x.few(3, 2));
        x = Due.withBooks(1060, 2060, 3060, 4060, 5060);
        Due.text(x, "cost h<50");
        Due.row(Due.of(1, 10, 50), x.few(2, -1), x.few(2, 0), x.few(2, 1));
        // Prices of 0 together, by the first set, by all of them, and by the last one alone.
        Due.text(x, "cost h>10&h<50");
        Due.row(Due.of(0, 10, 50), x.few(2, -1), x.few(2, 0), x.few(2, 1));
        Due.text(x, "cost 0");
        Due.row(Due.of(0, 10, 50), x.few(2, -1), x.few(2, 0), x.few(2, 1));
        Due.row(Due.of(0, 10, 20, 50), x.few(3, -1), x.few(3, 0), x.few(3, 1), x.few(3, 2));
        Due.text(x, "cost h<40");
        Due.row(Due.of(0, 40, 50), x.few(2, -1), x.few(2, 0), x.few(2, 1));
        // With 20 two books cost 3 each, with 30 three books 2 each.
        Due.text(x, "cost (h=10|h=40)*9+(h=20)*3+(h=30)*2");
        Due.row(Due.of(6, 20, 50), x.few(2, -1), x.few(2, 0), x.few(2, 1));
        Due.row(Due.of(8, 20, 30, 50), x.few(3, -1), x.few(3, 0), x.few(3, 1), x.few(3, 2));
    }

    /** 24 unlike heights from 10 on, each on a line of its own. */
    private static void fewOfMany() {
        Doc.says("Terms 2", "FEW by k: of all sets of k unlike HEIGHTS of BOOKS,");
        BookBoards x = new BookBoards();
        for (int i = 0; i < 24; i++) {
            x.book(100 * (10 + i) + 60, 0);
        }
        x.set(1, 0);
        Due.row(Due.of(24 * 33, 33), x.few(1, -1), x.few(1, 0));
        // Halves, and thirds: 12 of 21 and 12 of 33; 8 of 17, 8 of 25 and 8 of 33.
        Due.row(Due.of(12 * 54, 21, 33), x.few(2, -1), x.few(2, 0), x.few(2, 1));
        Due.row(Due.of(8 * 75, 17, 25, 33), x.few(3, -1), x.few(3, 0), x.few(3, 1), x.few(3, 2));
        // The last set of all, and the last but one.
        Due.text(x, "cost (h<31)*99+(h=33)");
        Due.row(Due.of(1, 31, 32, 33), x.few(3, -1), x.few(3, 0), x.few(3, 1), x.few(3, 2));
        Due.row(Due.of(1, 32, 33), x.few(2, -1), x.few(2, 0), x.few(2, 1));
        Due.text(x, "cost (h<30)*99+(h=33)+(h=31)*9");
        Due.row(Due.of(1, 30, 32, 33), x.few(3, -1), x.few(3, 0), x.few(3, 1), x.few(3, 2));
    }

    private static void apart() {
        Doc.says("Terms 2", "APART from t (1 .. 100): BOOKS of HEIGHT t or more are by themselves, the others by "
                + "themselves, both in their order, each with a SETTING (TIED does not matter); PRICES of both together,");
        BookBoards x = Due.withBooks(2060, 4050, 2040, 4050);
        x.set(1, 0);
        Due.text(x, "walk 0");
        // Together 20, 40, 40 or so; apart 20 (60 + 40) and 40 (50 + 50).
        Due.row(Due.of(100, 60, 60, 100, 100), x.apart(100), x.apart(40), x.apart(21), x.apart(20), x.apart(1));
        Due.is(100, x.apart(41));
        Due.all(BAD, x.apart(0), x.apart(101));
        x.tie(0, true);
        x.tie(1, true);
        x.tie(2, true);
        Due.row(Due.of(NONE, 60, 100, 100), x.setting(-2), x.apart(40), x.apart(100), x.apart(1));
        // Both by the allowed heights and the text of prices.
        x.allow(30);
        x.allow(50);
        Due.is(80, x.apart(40));
        Due.text(x, "cost h*n");
        Due.is(60 + 100, x.apart(40));
        // One of both has no setting: the tall one, then the others.
        x.clear();
        x.allow(39);
        Due.is(NONE, x.apart(40));
        x = Due.withBooks(2099, 4010);
        x.set(0, 98);
        Due.row(Due.of(NONE, NONE, NONE), x.apart(40), x.apart(1), x.apart(100));
        x = Due.withBooks(2010, 4099);
        x.set(0, 98);
        Due.row(Due.of(NONE, NONE, NONE), x.apart(40), x.apart(1), x.apart(100));
        // Heights of 99 and of 1.
        x = Due.withBooks(9960, 160, 9960, 160);
        x.set(1, 0);
        Due.row(Due.of(99 * 2 + 2, 99 * 2 + 2 + 10, 99 * 2 + 2 + 10, 99 * 2 + 2 + 20), x.apart(100), x.apart(99),
                x.apart(2), x.apart(1));
    }

    private static void apartWalks() {
        Doc.says("Terms 2",
                "and for each of HEIGHT t or more what walk gives (held within 0 .. 999; without a TEXT: 5).");
        BookBoards x = Due.withBooks(2010, 3010, 4010);
        Due.row(Due.of(42, 42 + 32 + 5, 42 + 22 + 10, 42 + 15), x.apart(100), x.apart(40), x.apart(30), x.apart(20));
        String[] walks = {"0", "0-1", "1", "998", "999", "1000", "9999*9999*21", "9999*9999*22", "h*p+h"};
        int[] held = {0, 0, 1, 998, 999, 999, 999, 0, 40};
        for (int i = 0; i < walks.length; i++) {
            Due.is(i, Due.text(x, "walk " + walks[i]));
            Due.row(Due.of(42, 42 + 32 + held[i]), x.apart(100), x.apart(40));
        }
        // Each is held by itself.
        Due.text(x, "walk (h=20)*2000-(h=30)*500+(h=40)*7");
        Due.row(Due.of(42 + 999 + 7, 42 + 22 + 7), x.apart(1), x.apart(30));
        BookBoards y = new BookBoards();
        for (int i = 0; i < 24; i++) {
            y.book(9901, i % 8);
        }
        Due.text(y, "walk 1000+p");
        Due.row(Due.of(101, 101 + 24 * 999), y.apart(100), y.apart(99));
        Due.text(y, "walk p*100");
        Due.is(101 + 3 * 2800, y.apart(99));
    }

    private static void edge() {
        Doc.says("Terms 2", "THE EDGE: the t for which that is least;");
        BookBoards x = Due.withBooks(2060, 4050, 2040, 4050);
        x.set(1, 0);
        Due.row(Due.of(100, 70, 40), x.apart(100), x.apart(40), x.edge());
        // Just less, and just not less.
        Due.text(x, "walk 19");
        Due.row(Due.of(98, 40), x.apart(40), x.edge());
        Due.text(x, "walk 20");
        Due.row(Due.of(100, 100), x.apart(40), x.edge());
        Due.text(x, "walk 21");
        Due.is(100, x.edge());
        // The least is 0, with the greatest t, or with another one: 60, 50 + 40, 50 have two lines of one book.
        Due.text(x, "walk 0");
        Due.text(x, "cost 0");
        Due.is(100, x.edge());
        Due.text(x, "cost n=1");
        Due.row(Due.of(2, 0, 40), x.apart(100), x.apart(40), x.edge());
        // The least edge that there can be (one more than the least height) and the greatest height.
        x = Due.withBooks(150, 250, 150, 250);
        Due.text(x, "cost h*100");
        Due.row(Due.of(400, 310, 2), x.apart(100), x.apart(2), x.edge());
        x = Due.withBooks(9850, 9950, 9850, 9950);
        Due.text(x, "cost h*100");
        Due.row(Due.of(19800, 19700 + 10, 99), x.apart(100), x.apart(99), x.edge());
        // There is none where a book can't be set.
        x.set(0, 49);
        Due.is(NONE, x.edge());
        x.set(0, 50);
        x.allow(98);
        Due.is(NONE, x.edge());
        x.allow(99);
        Due.isTrue(x.edge() != NONE, "an edge by the greatest allowed height");
        // Ties do not matter.
        x = Due.withBooks(2060, 4050, 2040, 4050);
        x.set(1, 0);
        x.tie(0, true);
        Due.row(Due.of(NONE, 40), x.setting(-2), x.edge());
    }

    private static void edgeOfSeveral() {
        Doc.says("Terms 2", "of several the greatest.");
        Due.is(100, new BookBoards().edge());
        BookBoards x = Due.withBooks(2060, 4050, 3040, 4050);
        Due.text(x, "cost 1");
        Due.text(x, "walk 0");
        // 60, 50 + 40, 50: three lines; 60 + 40 and 50 + 50: two.
        Due.row(Due.of(3, 2, 3, 3), x.apart(100), x.apart(40), x.apart(30), x.apart(20));
        Due.is(40, x.edge());
        Due.text(x, "cost 0");
        Due.is(100, x.edge());
        // 31 to 40 are alike, and of two heights that are alike the greater one.
        x = Due.withBooks(2060, 4050, 3040, 5050);
        Due.text(x, "cost 1");
        Due.text(x, "walk 0");
        Due.row(Due.of(3, 3, 2, 3, 3), x.apart(100), x.apart(50), x.apart(40), x.apart(30), x.apart(20));
        Due.row(Due.of(2, 40), x.apart(31), x.edge());
        x = Due.withBooks(2060, 3050, 2040, 4050);
        Due.text(x, "cost 1");
        Due.text(x, "walk 0");
        Due.row(Due.of(3, 3, 2, 2, 3), x.apart(100), x.apart(40), x.apart(30), x.apart(21), x.apart(20));
        Due.is(30, x.edge());
        // Both 40 and 30 give the least.
        x = Due.withBooks(2060, 4050, 2035, 4045, 3005);
        Due.text(x, "cost 1");
        Due.text(x, "walk 0");
        Due.row(Due.of(3, 2, 2, 3), x.apart(100), x.apart(40), x.apart(30), x.apart(20));
        Due.is(40, x.edge());
        x = Due.withBooks(2060, 3040, 4060, 3040);
        Due.text(x, "cost 1");
        Due.text(x, "walk 0");
        Due.row(Due.of(2, 3, 3, 2), x.apart(100), x.apart(40), x.apart(30), x.apart(20));
        Due.is(100, x.edge());
    }
}
