/** Promises 14 to 21: setting, line, allow, clear, cases, few, apart, edge. */
public final class SettingTest {
    private static final int BAD = Due.BAD, FULL = Due.FULL, NONE = Due.NONE, NO = Due.NO;
    private static final int LEAST = Integer.MIN_VALUE, GREATEST = Integer.MAX_VALUE;

    public static void main(String[] args) {
        promise14Setting();
        promise14Ties();
        promise14Prices();
        promise15Line();
        promise16Allow();
        promise17Clear();
        promise18Cases();
        promise19Few();
        promise20Apart();
        promise21Edge();
        Due.end();
    }

    private static void promise14Setting() {
        BookBoards x = new BookBoards();
        Due.row(Due.of(0, 0, NONE, NONE, BAD, BAD), x.setting(-2), x.setting(-1), x.setting(0), x.setting(GREATEST),
                x.setting(-3), x.setting(LEAST));
        x = Due.withBooks(2040, 3030, 3030, 2040);
        Due.row(Due.of(54, 2, 0, 3), x.setting(-2), x.setting(-1), x.setting(0), x.setting(1));
        x.set(0, 60);
        Due.row(Due.of(76, 3, 0, 1, 3, NONE), x.setting(-2), x.setting(-1), x.setting(0), x.setting(1), x.setting(2),
                x.setting(3));
        x.set(0, 39);
        Due.all(NONE, x.setting(-2), x.setting(-1), x.setting(0));
        Due.is(BAD, x.setting(-3));
        x.set(0, 999);
        Due.row(Due.of(32, 1, 0, NONE), x.setting(-2), x.setting(-1), x.setting(0), x.setting(1));
        // Of ways with the same prices the one with the longest first line, then the longest second one.
        x = Due.withBooks(2030, 2030, 2030, 2030, 2030);
        x.set(0, 90);
        Due.row(Due.of(44, 2, 0, 3), x.setting(-2), x.setting(-1), x.setting(0), x.setting(1));
        x.set(0, 60);
        Due.row(Due.of(66, 3, 0, 2, 4), x.setting(-2), x.setting(-1), x.setting(0), x.setting(1), x.setting(2));
        x.set(0, 30);
        Due.row(Due.of(110, 5, 4, NONE), x.setting(-2), x.setting(-1), x.setting(4), x.setting(5));
    }

    private static void promise14Ties() {
        BookBoards x = Due.withBooks(2010, 2010, 9010, 2010);
        x.set(0, 20);
        x.set(1, 0);
        Due.row(Due.of(110, 2, 2), x.setting(-2), x.setting(-1), x.setting(1));
        x.tie(1, true);
        Due.row(Due.of(130, 3, 1, 3), x.setting(-2), x.setting(-1), x.setting(1), x.setting(2));
        x.tie(0, true);
        Due.is(NONE, x.setting(-2));
        x.set(0, 30);
        Due.row(Due.of(110, 2, 3), x.setting(-2), x.setting(-1), x.setting(1));
        x.tie(3, true);
        Due.row(Due.of(110, 2, 3), x.setting(-2), x.setting(-1), x.setting(1));
    }

    private static void promise14Prices() {
        BookBoards x = Due.withBooks(2010, 2010, 3010);
        Due.is(0, Due.text(x, "cost 0-5"));
        Due.row(Due.of(0, 1, 0), x.setting(-2), x.setting(-1), x.line(0, 4));
        Due.is(1, Due.text(x, "cost 9999*9999"));
        Due.row(Due.of(9999, 9999), x.setting(-2), x.line(0, 4));
        Due.is(2, Due.text(x, "cost n*n*n*200+h*10+l"));
        Due.row(Due.of(402 + 402 + 502, 3), x.setting(-2), x.setting(-1));
        Due.row(Due.of(402, 402, 502), x.line(0, 4), x.line(1, 4), x.line(2, 4));
        BookBoards y = Due.withBooks(2010, 2010, 2110);
        Due.text(y, "cost h*n");
        Due.row(Due.of(61, 2, 40, 21), y.setting(-2), y.setting(-1), y.line(0, 4), y.line(1, 4));
        x.set(1, 9);
        Due.is(409, x.line(0, 4));
        x.allow(50);
        Due.row(Due.of(709, 709, 709), x.line(0, 4), x.line(1, 4), x.line(2, 4));
    }

    private static void promise15Line() {
        BookBoards x = new BookBoards();
        Due.all(NONE, x.line(0, 0), x.line(0, 4), x.line(GREATEST, 0));
        Due.all(BAD, x.line(-1, 0), x.line(0, 5), x.line(0, -1), x.line(LEAST, 0), x.line(0, LEAST));
        x = Due.withBooks(2040, 3030, 2530, 2040);
        x.set(0, 70);
        x.allow(28);
        x.allow(45);
        // Books 0 and 1 on a line of 45, books 2 and 3 on one of 28.
        Due.row(Due.of(2, 70, 30, 45, 47), x.line(0, 0), x.line(0, 1), x.line(0, 2), x.line(0, 3), x.line(0, 4));
        Due.row(Due.of(2, 70, 25, 28, 30), x.line(1, 0), x.line(1, 1), x.line(1, 2), x.line(1, 3), x.line(1, 4));
        x.clear();
        Due.row(Due.of(25, 27), x.line(1, 3), x.line(1, 4));
        Due.all(NONE, x.line(2, 0), x.line(GREATEST, 4));
        Due.all(BAD, x.line(-1, 0), x.line(0, 5), x.line(2, 5), x.line(0, -1), x.line(LEAST, 0));
        x.set(0, 39);
        Due.all(NONE, x.line(0, 0), x.line(1, 4));
        Due.is(BAD, x.line(0, 5));
    }

    private static void promise16Allow() {
        BookBoards x = Due.withBooks(3010);
        Due.all(BAD, x.allow(0), x.allow(100), x.allow(-1), x.allow(LEAST), x.allow(GREATEST));
        Due.row(Due.of(1, 2, NO, NO), x.allow(99), x.allow(1), x.allow(99), x.allow(1));
        Due.is(99, x.line(0, 3));
        Due.row(Due.of(3, 4, 5, 6), x.allow(29), x.allow(40), x.allow(31), x.allow(50));
        Due.is(31, x.line(0, 3));
        Due.row(Due.of(FULL, NO, BAD), x.allow(30), x.allow(31), x.allow(0));
        Due.is(6, x.count(3));
        Due.is(31, x.line(0, 3));
        x.clear();
        Due.is(1, x.allow(30));
        Due.row(Due.of(30, 32), x.line(0, 3), x.setting(-2));
        x.clear();
        x.allow(29);
        Due.is(NONE, x.setting(-2));
    }

    private static void promise17Clear() {
        BookBoards x = Due.withBooks(3010);
        Due.is(0, x.clear());
        x.allow(40);
        x.allow(20);
        Due.row(Due.of(2, 0, 0), x.clear(), x.clear(), x.count(3));
        Due.is(30, x.line(0, 3));
        Due.is(1, x.allow(40));
    }

    private static void promise18Cases() {
        BookBoards x = new BookBoards();
        Due.row(Due.of(0, 0), x.cases(0), x.cases(1));
        Due.all(BAD, x.cases(-1), x.cases(2), x.cases(LEAST), x.cases(GREATEST));
        x = Due.withBooks(3050, 2050, 4050, 2050, 2050);
        x.set(1, 3);
        // Lines of 33 and 43 and 23, or 33, 23, 43, 23, 23 and so on.
        x.set(2, 999);
        Due.row(Due.of(1, 33 + 43 + 23), x.cases(0), x.cases(1));
        x.set(2, 99);
        Due.row(Due.of(1, 99), x.cases(0), x.cases(1));
        x.set(2, 98);
        Due.row(Due.of(2, 23), x.cases(0), x.cases(1));
        x.set(2, 43);
        Due.row(Due.of(3, 23), x.cases(0), x.cases(1));
        x.set(2, 42);
        Due.all(NONE, x.cases(0), x.cases(1));
        Due.is(BAD, x.cases(2));
        x.set(2, 999);
        x.set(0, 49);
        Due.is(NONE, x.cases(0));
        // A case that is full to its greatest height.
        x = Due.withBooks(9960, 9960, 9960, 9960, 9960, 9960, 9960, 9960, 9960, 1860);
        x.set(1, 9);
        x.set(2, 999);
        Due.row(Due.of(1, 999), x.cases(0), x.cases(1));
        x.set(2, 998);
        Due.row(Due.of(2, 27), x.cases(0), x.cases(1));
        // Two lines by pairs: the lesser height is used, whichever way comes first.
        x = Due.withBooks(3050, 3050, 1050);
        Due.row(Due.of(1, 32 + 12), x.cases(0), x.cases(1));
        x = Due.withBooks(1050, 3050, 3050);
        Due.row(Due.of(1, 12 + 32), x.cases(0), x.cases(1));
        x.set(2, 43);
        Due.row(Due.of(2, 32), x.cases(0), x.cases(1));
        x.allow(29);
        Due.all(NONE, x.cases(0), x.cases(1));
        // A text of prices does not matter here; ties and allowed heights do.
        x = Due.withBooks(3050, 2050);
        Due.text(x, "cost 1");
        Due.is(32, x.cases(1));
        x.allow(35);
        Due.is(37, x.cases(1));
        x.set(0, 99);
        Due.row(Due.of(1, 74), x.cases(0), x.cases(1));
        x.tie(0, true);
        Due.is(NONE, x.cases(1));
        x.tie(0, false);
        x.allow(20);
        Due.row(Due.of(1, 59), x.cases(0), x.cases(1));
        x.set(2, 37);
        Due.row(Due.of(2, 22), x.cases(0), x.cases(1));
        // The least prices would not be the fewest cases: here it pays to part the books otherwise.
        x = Due.withBooks(1050, 3050, 3050, 1050);
        x.set(1, 0);
        x.set(2, 30);
        Due.row(Due.of(2, 30), x.cases(0), x.cases(1));
        Due.is(50, x.setting(-2));
    }

    private static void promise19Few() {
        BookBoards x = new BookBoards();
        Due.row(Due.of(NONE, NONE, NONE), x.few(1, -1), x.few(1, 0), x.few(3, 2));
        Due.all(BAD, x.few(0, -1), x.few(4, -1), x.few(1, 1), x.few(2, 2), x.few(3, 3), x.few(1, -2),
                x.few(LEAST, 0), x.few(GREATEST, 0), x.few(1, LEAST), x.few(3, GREATEST));
        x = Due.withBooks(2060, 3060, 2060, 4060, 2060);
        x.set(1, 0);
        Due.row(Due.of(200, 40), x.few(1, -1), x.few(1, 0));
        Due.row(Due.of(140, 20, 40), x.few(2, -1), x.few(2, 0), x.few(2, 1));
        Due.row(Due.of(130, 20, 30, 40), x.few(3, -1), x.few(3, 0), x.few(3, 1), x.few(3, 2));
        x.allow(99);
        Due.row(Due.of(130, 495), x.few(3, -1), x.setting(-2));
        x.set(0, 59);
        Due.all(NONE, x.few(1, -1), x.few(2, 0), x.few(3, 2));
        // Fewer unlike heights than asked for.
        x = Due.withBooks(2060, 3060, 2060);
        Due.row(Due.of(NONE, NONE, 76), x.few(3, -1), x.few(3, 0), x.few(2, -1));
        // Of like ones the lesser heights first.
        x = Due.withBooks(1010, 2010, 3010, 4010);
        Due.row(Due.of(42, 10, 40), x.few(2, -1), x.few(2, 0), x.few(2, 1));
        Due.row(Due.of(42, 10, 20, 40), x.few(3, -1), x.few(3, 0), x.few(3, 1), x.few(3, 2));
        // Sets in the midst of all of them, and the last one.
        x = Due.withBooks(1060, 2060, 2060, 2060, 3060, 4060, 4060, 5060);
        x.set(1, 0);
        Due.row(Due.of(400, 280, 20, 50), x.few(1, -1), x.few(2, -1), x.few(2, 0), x.few(2, 1));
        Due.row(Due.of(250, 20, 40, 50), x.few(3, -1), x.few(3, 0), x.few(3, 1), x.few(3, 2));
        x = Due.withBooks(3060, 3060, 3060, 3060, 4060, 4060, 4060, 1060, 5060);
        x.set(1, 0);
        Due.row(Due.of(320, 30, 40, 50), x.few(3, -1), x.few(3, 0), x.few(3, 1), x.few(3, 2));
        x = Due.withBooks(2060, 2060, 2060, 3060, 3060, 3060, 1060, 4060, 5060);
        x.set(1, 0);
        Due.row(Due.of(270, 20, 30, 50), x.few(3, -1), x.few(3, 0), x.few(3, 1), x.few(3, 2));
        Due.text(x, "cost 0");
        Due.row(Due.of(0, 10, 20, 50), x.few(3, -1), x.few(3, 0), x.few(3, 1), x.few(3, 2));
        // Ties count, and the text of prices.
        x = Due.withBooks(2060, 4030, 2030);
        x.set(1, 0);
        Due.is(60, x.few(2, -1));
        x.tie(1, true);
        Due.text(x, "cost h*n");
        Due.row(Due.of(100, 100), x.few(2, -1), x.setting(-2));
        x.tie(1, false);
        Due.is(80, x.few(2, -1));
    }

    private static void promise20Apart() {
        BookBoards x = new BookBoards();
        Due.row(Due.of(0, 0, BAD, BAD, BAD, BAD), x.apart(1), x.apart(100), x.apart(0), x.apart(101),
                x.apart(LEAST), x.apart(GREATEST));
        x = Due.withBooks(2060, 4050, 2040, 4050, 3001);
        x.set(1, 0);
        Due.row(Due.of(20 + 40 + 40, 20 + 30 + 40 + 10), x.apart(100), x.apart(40));
        Due.is(20 + 40 + 40 + 25, x.apart(1));
        Due.is(x.apart(40), x.apart(31));
        Due.is(20 + 40 + 30 + 15, x.apart(30));
        // Ties do not matter.
        x.tie(0, true);
        x.tie(1, true);
        Due.row(Due.of(NONE, 100), x.setting(-2), x.apart(40));
        Due.is(0, Due.text(x, "walk h-p"));
        Due.is(90 + 80, x.apart(40));
        Due.is(1, Due.text(x, "walk 0-1"));
        Due.is(90, x.apart(40));
        Due.is(2, Due.text(x, "walk 1000"));
        Due.is(90 + 2 * 999, x.apart(40));
        x.allow(39);
        Due.all(NONE, x.apart(40), x.apart(1), x.apart(100));
        x.allow(50);
        Due.is(39 + 39 + 50 + 1998, x.apart(40));
        x.set(0, 59);
        Due.is(NONE, x.apart(40));
        // The part counts in walk.
        x = new BookBoards();
        x.book(4010, 7);
        x.book(2010, 1);
        Due.text(x, "walk p*100");
        Due.row(Due.of(42 + 22 + 700, 42 + 800, 42), x.apart(40), x.apart(20), x.apart(41));
    }

    /** Some books of few heights: the edge is the greatest t for which apart answers the least. */
    private static void edgeIsLeast() {
        int inTheMidst = 0;
        for (int seed = 1; seed <= 20; seed++) {
            BookBoards x = new BookBoards();
            x.seed(seed);
            x.deal(12);
            for (int i = 0; i < 12; i++) {
                x.book(100 * (10 + 20 * (i * seed % 4)) + 20, i % 8);
            }
            x.set(0, 40 + seed);
            Due.text(x, "walk p/3");
            int best = 100;
            for (int t = 99; t >= 1; t--) {
                best = x.apart(t) < x.apart(best) ? t : best;
            }
            Due.is(best, x.edge());
            inTheMidst += best < 70 ? 1 : 0;
        }
        Due.isTrue(inTheMidst > 3, "edges below 70: " + inTheMidst);
    }

    private static void promise21Edge() {
        Due.is(100, new BookBoards().edge());
        BookBoards x = Due.withBooks(2060, 4050, 2040, 4050, 2060, 4040);
        // Together 20, 40, 40, 40; apart 20, 20, 40, 40 and 15 for walking.
        x.set(1, 0);
        Due.row(Due.of(140, 135, 40), x.apart(100), x.apart(40), x.edge());
        Due.text(x, "walk 30");
        Due.is(100, x.edge());
        Due.text(x, "walk 0");
        Due.is(40, x.edge());
        Due.text(x, "cost 7");
        // All parted like: the greatest t of those with the least prices.
        Due.row(Due.of(28, 28, 28, 100), x.apart(100), x.apart(40), x.apart(1), x.edge());
        x.set(0, 59);
        Due.is(NONE, x.edge());
        x.set(0, 60);
        x.allow(39);
        Due.is(NONE, x.edge());
        x = Due.withBooks(2060, 9950, 2040, 9950);
        x.set(1, 0);
        Due.row(Due.of(218, 129, 99), x.apart(100), x.apart(99), x.edge());
        edgeIsLeast();
        // A single tall book of the lowest height there can be.
        x = Due.withBooks(101);
        Due.is(100, x.edge());
        Due.text(x, "cost h*0+5");
        Due.is(100, x.edge());
    }
}
